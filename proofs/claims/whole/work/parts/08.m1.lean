/-! the model's methods: contracts (written by program: wip/whole/mkmodel.py) -/
set_option maxRecDepth 100000 in
theorem hv_X12_channel : yX12_channel.cls = RX12 ∧ yX12_channel.cls ≠ "java/lang/invoke/MethodHandle" ∧ yX12_channel.cls ≠ "java/lang/invoke/VarHandle" ∧ (parseMethodDescriptor yX12_channel.desc).map (fun d => d.parameters.length) = some 1 := by decide +kernel
set_option maxRecDepth 100000 in
theorem hd_X12_channel : yX12_channel.cls ≠ "java/lang/invoke/MethodHandle" ∧ yX12_channel.cls ≠ "java/lang/invoke/VarHandle" ∧ (parseMethodDescriptor yX12_channel.desc).map (fun d => d.parameters.length) = some 1 := hv_X12_channel.2
abbrev wa_X12_channel : List Cond := Cond.code yX12_channel cX12_channel 1 (some .int) :: am_tb
set_option maxRecDepth 100000 in
theorem ok_X12_channel_0 (l : Launch) (G : am_G) (hG : am_ok G) (hX : am_xs G) : ∀ q ∈ (cl_X12_channel.drop 0).take 30, am_Ok l G cX12_channel 1 yX12_channel.cls wa_X12_channel (am_ro 0) (some .int) q.2 q.1 :=
  List.forall_mem_cons.mpr ⟨(mp_sipush (150) dX12_channel_0 (by decide)).ok _,
  List.forall_mem_cons.mpr ⟨(mp_iconst (5) dX12_channel_3 rfl).ok _,
  List.forall_mem_cons.mpr ⟨(mp_iload_n 0 dX12_channel_4 rfl).ok _,
  List.forall_mem_cons.mpr ⟨(mp_imul dX12_channel_5).ok _,
  List.forall_mem_cons.mpr ⟨(mp_iadd dX12_channel_6).ok _,
  List.forall_mem_cons.mpr ⟨mo_iret dX12_channel_7,
  fun _ h => absurd h List.not_mem_nil⟩⟩⟩⟩⟩⟩
set_option maxRecDepth 100000 in
theorem ok_X12_channel (l : Launch) (G : am_G) (hG : am_ok G) (hX : am_xs G) : ∀ q ∈ cl_X12_channel, am_Ok l G cX12_channel 1 yX12_channel.cls wa_X12_channel (am_ro 0) (some .int) q.2 q.1 := by
  exact ok_X12_channel_0 l G hG hX
set_option maxRecDepth 100000 in
theorem sm_X12_channel (l : Launch) (G : am_G) (hG : am_ok G) (hX : am_xs G) : am_mS sp_X12_channel := fun av σ R R1 hR h => ⟨h.1, am_Wp.mr (fun pc => (am_lk_ok (ok_X12_channel l G hG hX) pc).1) hR h.2⟩
set_option maxRecDepth 100000 in
theorem m_X12_channel (l : Launch) (G : am_G) (hG : am_ok G) (hX : am_xs G) : am_Met l G yX12_channel wa_X12_channel (am_ro 0) sp_X12_channel :=
  am_met hG (am_lk cl_X12_channel) 1 (by decide +kernel) rfl (by decide) (am_lk_ok (ok_X12_channel l G hG hX)) (v_X12_channel (fun pc => (am_lk_ok (ok_X12_channel l G hG hX) pc).1))
set_option maxRecDepth 100000 in
theorem hv_X12_copies : yX12_copies.cls = RX12 ∧ yX12_copies.cls ≠ "java/lang/invoke/MethodHandle" ∧ yX12_copies.cls ≠ "java/lang/invoke/VarHandle" ∧ (parseMethodDescriptor yX12_copies.desc).map (fun d => d.parameters.length) = some 2 := by decide +kernel
set_option maxRecDepth 100000 in
theorem hd_X12_copies : yX12_copies.cls ≠ "java/lang/invoke/MethodHandle" ∧ yX12_copies.cls ≠ "java/lang/invoke/VarHandle" ∧ (parseMethodDescriptor yX12_copies.desc).map (fun d => d.parameters.length) = some 2 := hv_X12_copies.2
abbrev wa_X12_copies : List Cond := Cond.code yX12_copies cX12_copies 4 none :: am_tb
set_option maxRecDepth 100000 in
theorem ok_X12_copies_0 (l : Launch) (G : am_G) (hG : am_ok G) (hX : am_xs G) : ∀ q ∈ (cl_X12_copies.drop 0).take 30, am_Ok l G cX12_copies 4 yX12_copies.cls wa_X12_copies (am_ro 0) none q.2 q.1 :=
  List.forall_mem_cons.mpr ⟨(mp_iconst (0) dX12_copies_0 rfl).ok _,
  List.forall_mem_cons.mpr ⟨(mp_istore_n 3 dX12_copies_1 rfl (by decide)).ok _,
  List.forall_mem_cons.mpr ⟨(mp_iload_n 3 dX12_copies_2 rfl).ok _,
  List.forall_mem_cons.mpr ⟨(mp_bipush (25) dX12_copies_3 (by decide)).ok _,
  List.forall_mem_cons.mpr ⟨(mp_icmp_ge 30 dX12_copies_5 (by decide)).ok _,
  List.forall_mem_cons.mpr ⟨(mp_aload_n 0 dX12_copies_8 rfl).ok _,
  List.forall_mem_cons.mpr ⟨(mq_getf 12 1 dX12_copies_9 rfl iu_X12 (by decide) tw_1214 rfl).ok _,
  List.forall_mem_cons.mpr ⟨(mp_iload_n 2 dX12_copies_12 rfl).ok _,
  List.forall_mem_cons.mpr ⟨(mp_iload_n 3 dX12_copies_13 rfl).ok _,
  List.forall_mem_cons.mpr ⟨(mp_iadd dX12_copies_14).ok _,
  List.forall_mem_cons.mpr ⟨(mp_aload_n 0 dX12_copies_15 rfl).ok _,
  List.forall_mem_cons.mpr ⟨(mq_getf 12 1 dX12_copies_16 rfl iu_X12 (by decide) tw_1214 rfl).ok _,
  List.forall_mem_cons.mpr ⟨(mp_iload_n 1 dX12_copies_19 rfl).ok _,
  List.forall_mem_cons.mpr ⟨(mp_iload_n 3 dX12_copies_20 rfl).ok _,
  List.forall_mem_cons.mpr ⟨(mp_iadd dX12_copies_21).ok _,
  List.forall_mem_cons.mpr ⟨(mp_iald dX12_copies_22).ok _,
  List.forall_mem_cons.mpr ⟨(mp_iast dX12_copies_23).ok _,
  List.forall_mem_cons.mpr ⟨(mp_iinc 3 (1) dX12_copies_24 rfl (by decide)).ok _,
  List.forall_mem_cons.mpr ⟨(mp_goto 2 dX12_copies_27 (by decide)).ok _,
  List.forall_mem_cons.mpr ⟨mo_vret dX12_copies_30,
  fun _ h => absurd h List.not_mem_nil⟩⟩⟩⟩⟩⟩⟩⟩⟩⟩⟩⟩⟩⟩⟩⟩⟩⟩⟩⟩
set_option maxRecDepth 100000 in
theorem ok_X12_copies (l : Launch) (G : am_G) (hG : am_ok G) (hX : am_xs G) : ∀ q ∈ cl_X12_copies, am_Ok l G cX12_copies 4 yX12_copies.cls wa_X12_copies (am_ro 0) none q.2 q.1 := by
  exact ok_X12_copies_0 l G hG hX
set_option maxRecDepth 100000 in
theorem sm_X12_copies (l : Launch) (G : am_G) (hG : am_ok G) (hX : am_xs G) : am_mS sp_X12_copies := fun av σ R R1 hR h => ⟨h.1, am_Wp.mr (fun pc => (am_lk_ok (ok_X12_copies l G hG hX) pc).1) hR h.2⟩
set_option maxRecDepth 100000 in
theorem m_X12_copies (l : Launch) (G : am_G) (hG : am_ok G) (hX : am_xs G) : am_Met l G yX12_copies wa_X12_copies (am_ro 0) sp_X12_copies :=
  am_met hG (am_lk cl_X12_copies) 3 (by decide +kernel) rfl (by decide) (am_lk_ok (ok_X12_copies l G hG hX)) (v_X12_copies (fun pc => (am_lk_ok (ok_X12_copies l G hG hX) pc).1))
set_option maxRecDepth 100000 in
theorem hv_X12_errorPosition : yX12_errorPosition.cls = RX12 ∧ yX12_errorPosition.cls ≠ "java/lang/invoke/MethodHandle" ∧ yX12_errorPosition.cls ≠ "java/lang/invoke/VarHandle" ∧ (parseMethodDescriptor yX12_errorPosition.desc).map (fun d => d.parameters.length) = some 0 := by decide +kernel
set_option maxRecDepth 100000 in
theorem hd_X12_errorPosition : yX12_errorPosition.cls ≠ "java/lang/invoke/MethodHandle" ∧ yX12_errorPosition.cls ≠ "java/lang/invoke/VarHandle" ∧ (parseMethodDescriptor yX12_errorPosition.desc).map (fun d => d.parameters.length) = some 0 := hv_X12_errorPosition.2
abbrev wa_X12_errorPosition : List Cond := Cond.code yX12_errorPosition cX12_errorPosition 1 (some .int) :: am_tb
set_option maxRecDepth 100000 in
theorem ok_X12_errorPosition_0 (l : Launch) (G : am_G) (hG : am_ok G) (hX : am_xs G) : ∀ q ∈ (cl_X12_errorPosition.drop 0).take 30, am_Ok l G cX12_errorPosition 1 yX12_errorPosition.cls wa_X12_errorPosition (am_ro 0) (some .int) q.2 q.1 :=
  List.forall_mem_cons.mpr ⟨(mp_aload_n 0 dX12_errorPosition_0 rfl).ok _,
  List.forall_mem_cons.mpr ⟨(mp_iconst (0) dX12_errorPosition_1 rfl).ok _,
  List.forall_mem_cons.mpr ⟨(mq_putf 12 0 dX12_errorPosition_2 rfl iu_X12 tyX12 tyX12_ok nmX12 (by decide) tw_1213 rfl rfl (by decide +kernel)).ok _,
  List.forall_mem_cons.mpr ⟨(mp_aload_n 0 dX12_errorPosition_5 rfl).ok _,
  List.forall_mem_cons.mpr ⟨(mq_getf 12 6 dX12_errorPosition_6 rfl iu_X12 (by decide) tw_1219 rfl).ok _,
  List.forall_mem_cons.mpr ⟨mo_iret dX12_errorPosition_9,
  fun _ h => absurd h List.not_mem_nil⟩⟩⟩⟩⟩⟩
set_option maxRecDepth 100000 in
theorem ok_X12_errorPosition (l : Launch) (G : am_G) (hG : am_ok G) (hX : am_xs G) : ∀ q ∈ cl_X12_errorPosition, am_Ok l G cX12_errorPosition 1 yX12_errorPosition.cls wa_X12_errorPosition (am_ro 0) (some .int) q.2 q.1 := by
  exact ok_X12_errorPosition_0 l G hG hX
set_option maxRecDepth 100000 in
theorem sm_X12_errorPosition (l : Launch) (G : am_G) (hG : am_ok G) (hX : am_xs G) : am_mS sp_X12_errorPosition := fun av σ R R1 hR h => ⟨h.1, am_Wp.mr (fun pc => (am_lk_ok (ok_X12_errorPosition l G hG hX) pc).1) hR h.2⟩
set_option maxRecDepth 100000 in
theorem m_X12_errorPosition (l : Launch) (G : am_G) (hG : am_ok G) (hX : am_xs G) : am_Met l G yX12_errorPosition wa_X12_errorPosition (am_ro 0) sp_X12_errorPosition :=
  am_met hG (am_lk cl_X12_errorPosition) 1 (by decide +kernel) rfl (by decide) (am_lk_ok (ok_X12_errorPosition l G hG hX)) (v_X12_errorPosition (fun pc => (am_lk_ok (ok_X12_errorPosition l G hG hX) pc).1))
set_option maxRecDepth 100000 in
theorem hv_X12_fault : yX12_fault.cls = RX12 ∧ yX12_fault.cls ≠ "java/lang/invoke/MethodHandle" ∧ yX12_fault.cls ≠ "java/lang/invoke/VarHandle" ∧ (parseMethodDescriptor yX12_fault.desc).map (fun d => d.parameters.length) = some 3 := by decide +kernel
set_option maxRecDepth 100000 in
theorem hd_X12_fault : yX12_fault.cls ≠ "java/lang/invoke/MethodHandle" ∧ yX12_fault.cls ≠ "java/lang/invoke/VarHandle" ∧ (parseMethodDescriptor yX12_fault.desc).map (fun d => d.parameters.length) = some 3 := hv_X12_fault.2
abbrev wa_X12_fault : List Cond := Cond.code yX12_fault cX12_fault 5 (some .int) :: am_tb
set_option maxRecDepth 100000 in
theorem ok_X12_fault_0 (l : Launch) (G : am_G) (hG : am_ok G) (hX : am_xs G) : ∀ q ∈ (cl_X12_fault.drop 0).take 30, am_Ok l G cX12_fault 5 yX12_fault.cls wa_X12_fault (am_ro 0) (some .int) q.2 q.1 :=
  List.forall_mem_cons.mpr ⟨(mp_aload_n 0 dX12_fault_0 rfl).ok _,
  List.forall_mem_cons.mpr ⟨(mq_getf 12 1 dX12_fault_1 rfl iu_X12 (by decide) tw_1214 rfl).ok _,
  List.forall_mem_cons.mpr ⟨(mp_sipush (172) dX12_fault_4 (by decide)).ok _,
  List.forall_mem_cons.mpr ⟨(mp_dup2 dX12_fault_7).ok _,
  List.forall_mem_cons.mpr ⟨(mp_iald dX12_fault_8).ok _,
  List.forall_mem_cons.mpr ⟨(mp_dup_x2 dX12_fault_9).ok _,
  List.forall_mem_cons.mpr ⟨(mp_iconst (1) dX12_fault_10 rfl).ok _,
  List.forall_mem_cons.mpr ⟨(mp_iadd dX12_fault_11).ok _,
  List.forall_mem_cons.mpr ⟨(mp_iast dX12_fault_12).ok _,
  List.forall_mem_cons.mpr ⟨(mp_istore 4 dX12_fault_13 (by decide)).ok _,
  List.forall_mem_cons.mpr ⟨(mp_aload_n 0 dX12_fault_15 rfl).ok _,
  List.forall_mem_cons.mpr ⟨(mq_getf 12 1 dX12_fault_16 rfl iu_X12 (by decide) tw_1214 rfl).ok _,
  List.forall_mem_cons.mpr ⟨(mp_sipush (3231) dX12_fault_19 (by decide)).ok _,
  List.forall_mem_cons.mpr ⟨(mp_iconst (3) dX12_fault_22 rfl).ok _,
  List.forall_mem_cons.mpr ⟨(mp_iload 4 dX12_fault_23).ok _,
  List.forall_mem_cons.mpr ⟨(mp_imul dX12_fault_25).ok _,
  List.forall_mem_cons.mpr ⟨(mp_iadd dX12_fault_26).ok _,
  List.forall_mem_cons.mpr ⟨(mp_iload_n 1 dX12_fault_27 rfl).ok _,
  List.forall_mem_cons.mpr ⟨(mp_iast dX12_fault_28).ok _,
  List.forall_mem_cons.mpr ⟨(mp_aload_n 0 dX12_fault_29 rfl).ok _,
  List.forall_mem_cons.mpr ⟨(mq_getf 12 1 dX12_fault_30 rfl iu_X12 (by decide) tw_1214 rfl).ok _,
  List.forall_mem_cons.mpr ⟨(mp_sipush (3231) dX12_fault_33 (by decide)).ok _,
  List.forall_mem_cons.mpr ⟨(mp_iconst (3) dX12_fault_36 rfl).ok _,
  List.forall_mem_cons.mpr ⟨(mp_iload 4 dX12_fault_37).ok _,
  List.forall_mem_cons.mpr ⟨(mp_imul dX12_fault_39).ok _,
  List.forall_mem_cons.mpr ⟨(mp_iadd dX12_fault_40).ok _,
  List.forall_mem_cons.mpr ⟨(mp_iconst (1) dX12_fault_41 rfl).ok _,
  List.forall_mem_cons.mpr ⟨(mp_iadd dX12_fault_42).ok _,
  List.forall_mem_cons.mpr ⟨(mp_iload_n 2 dX12_fault_43 rfl).ok _,
  List.forall_mem_cons.mpr ⟨(mp_iast dX12_fault_44).ok _,
  fun _ h => absurd h List.not_mem_nil⟩⟩⟩⟩⟩⟩⟩⟩⟩⟩⟩⟩⟩⟩⟩⟩⟩⟩⟩⟩⟩⟩⟩⟩⟩⟩⟩⟩⟩⟩
set_option maxRecDepth 100000 in
theorem ok_X12_fault_1 (l : Launch) (G : am_G) (hG : am_ok G) (hX : am_xs G) : ∀ q ∈ (cl_X12_fault.drop 30).take 30, am_Ok l G cX12_fault 5 yX12_fault.cls wa_X12_fault (am_ro 0) (some .int) q.2 q.1 :=
  List.forall_mem_cons.mpr ⟨(mp_aload_n 0 dX12_fault_45 rfl).ok _,
  List.forall_mem_cons.mpr ⟨(mq_getf 12 1 dX12_fault_46 rfl iu_X12 (by decide) tw_1214 rfl).ok _,
  List.forall_mem_cons.mpr ⟨(mp_sipush (3231) dX12_fault_49 (by decide)).ok _,
  List.forall_mem_cons.mpr ⟨(mp_iconst (3) dX12_fault_52 rfl).ok _,
  List.forall_mem_cons.mpr ⟨(mp_iload 4 dX12_fault_53).ok _,
  List.forall_mem_cons.mpr ⟨(mp_imul dX12_fault_55).ok _,
  List.forall_mem_cons.mpr ⟨(mp_iadd dX12_fault_56).ok _,
  List.forall_mem_cons.mpr ⟨(mp_iconst (2) dX12_fault_57 rfl).ok _,
  List.forall_mem_cons.mpr ⟨(mp_iadd dX12_fault_58).ok _,
  List.forall_mem_cons.mpr ⟨(mp_iload_n 3 dX12_fault_59 rfl).ok _,
  List.forall_mem_cons.mpr ⟨(mp_iast dX12_fault_60).ok _,
  List.forall_mem_cons.mpr ⟨(mp_iload 4 dX12_fault_61).ok _,
  List.forall_mem_cons.mpr ⟨mo_iret dX12_fault_63,
  fun _ h => absurd h List.not_mem_nil⟩⟩⟩⟩⟩⟩⟩⟩⟩⟩⟩⟩⟩
set_option maxRecDepth 100000 in
theorem ok_X12_fault (l : Launch) (G : am_G) (hG : am_ok G) (hX : am_xs G) : ∀ q ∈ cl_X12_fault, am_Ok l G cX12_fault 5 yX12_fault.cls wa_X12_fault (am_ro 0) (some .int) q.2 q.1 := by
  have e : cl_X12_fault = ((cl_X12_fault.drop 0).take 30) ++ (((cl_X12_fault.drop 30).take 30)) := rfl
  rw [e]
  exact List.forall_mem_append.mpr ⟨ok_X12_fault_0 l G hG hX, ok_X12_fault_1 l G hG hX⟩
set_option maxRecDepth 100000 in
theorem sm_X12_fault (l : Launch) (G : am_G) (hG : am_ok G) (hX : am_xs G) : am_mS sp_X12_fault := fun av σ R R1 hR h => ⟨h.1, am_Wp.mr (fun pc => (am_lk_ok (ok_X12_fault l G hG hX) pc).1) hR h.2⟩
set_option maxRecDepth 100000 in
theorem m_X12_fault (l : Launch) (G : am_G) (hG : am_ok G) (hX : am_xs G) : am_Met l G yX12_fault wa_X12_fault (am_ro 0) sp_X12_fault :=
  am_met hG (am_lk cl_X12_fault) 4 (by decide +kernel) rfl (by decide) (am_lk_ok (ok_X12_fault l G hG hX)) (v_X12_fault (fun pc => (am_lk_ok (ok_X12_fault l G hG hX) pc).1))
set_option maxRecDepth 100000 in
theorem hv_X12_firstCause : yX12_firstCause.cls = RX12 ∧ yX12_firstCause.cls ≠ "java/lang/invoke/MethodHandle" ∧ yX12_firstCause.cls ≠ "java/lang/invoke/VarHandle" ∧ (parseMethodDescriptor yX12_firstCause.desc).map (fun d => d.parameters.length) = some 1 := by decide +kernel
set_option maxRecDepth 100000 in
theorem hd_X12_firstCause : yX12_firstCause.cls ≠ "java/lang/invoke/MethodHandle" ∧ yX12_firstCause.cls ≠ "java/lang/invoke/VarHandle" ∧ (parseMethodDescriptor yX12_firstCause.desc).map (fun d => d.parameters.length) = some 1 := hv_X12_firstCause.2
abbrev wa_X12_firstCause : List Cond := Cond.code yX12_firstCause cX12_firstCause 3 (some .int) :: am_tb
set_option maxRecDepth 100000 in
theorem ok_X12_firstCause_0 (l : Launch) (G : am_G) (hG : am_ok G) (hX : am_xs G) : ∀ q ∈ (cl_X12_firstCause.drop 0).take 30, am_Ok l G cX12_firstCause 3 yX12_firstCause.cls wa_X12_firstCause (am_ro 0) (some .int) q.2 q.1 :=
  List.forall_mem_cons.mpr ⟨(mp_iload_n 1 dX12_firstCause_0 rfl).ok _,
  List.forall_mem_cons.mpr ⟨(mp_istore_n 2 dX12_firstCause_1 rfl (by decide)).ok _,
  List.forall_mem_cons.mpr ⟨(mp_aload_n 0 dX12_firstCause_2 rfl).ok _,
  List.forall_mem_cons.mpr ⟨(mq_getf 12 1 dX12_firstCause_3 rfl iu_X12 (by decide) tw_1214 rfl).ok _,
  List.forall_mem_cons.mpr ⟨(mp_sipush (3231) dX12_firstCause_6 (by decide)).ok _,
  List.forall_mem_cons.mpr ⟨(mp_iconst (3) dX12_firstCause_9 rfl).ok _,
  List.forall_mem_cons.mpr ⟨(mp_iload_n 2 dX12_firstCause_10 rfl).ok _,
  List.forall_mem_cons.mpr ⟨(mp_imul dX12_firstCause_11).ok _,
  List.forall_mem_cons.mpr ⟨(mp_iadd dX12_firstCause_12).ok _,
  List.forall_mem_cons.mpr ⟨(mp_iconst (2) dX12_firstCause_13 rfl).ok _,
  List.forall_mem_cons.mpr ⟨(mp_iadd dX12_firstCause_14).ok _,
  List.forall_mem_cons.mpr ⟨(mp_iald dX12_firstCause_15).ok _,
  List.forall_mem_cons.mpr ⟨(mp_iconst (-1) dX12_firstCause_16 rfl).ok _,
  List.forall_mem_cons.mpr ⟨(mp_icmp_eq 38 dX12_firstCause_17 (by decide)).ok _,
  List.forall_mem_cons.mpr ⟨(mp_aload_n 0 dX12_firstCause_20 rfl).ok _,
  List.forall_mem_cons.mpr ⟨(mq_getf 12 1 dX12_firstCause_21 rfl iu_X12 (by decide) tw_1214 rfl).ok _,
  List.forall_mem_cons.mpr ⟨(mp_sipush (3231) dX12_firstCause_24 (by decide)).ok _,
  List.forall_mem_cons.mpr ⟨(mp_iconst (3) dX12_firstCause_27 rfl).ok _,
  List.forall_mem_cons.mpr ⟨(mp_iload_n 2 dX12_firstCause_28 rfl).ok _,
  List.forall_mem_cons.mpr ⟨(mp_imul dX12_firstCause_29).ok _,
  List.forall_mem_cons.mpr ⟨(mp_iadd dX12_firstCause_30).ok _,
  List.forall_mem_cons.mpr ⟨(mp_iconst (2) dX12_firstCause_31 rfl).ok _,
  List.forall_mem_cons.mpr ⟨(mp_iadd dX12_firstCause_32).ok _,
  List.forall_mem_cons.mpr ⟨(mp_iald dX12_firstCause_33).ok _,
  List.forall_mem_cons.mpr ⟨(mp_istore_n 2 dX12_firstCause_34 rfl (by decide)).ok _,
  List.forall_mem_cons.mpr ⟨(mp_goto 2 dX12_firstCause_35 (by decide)).ok _,
  List.forall_mem_cons.mpr ⟨(mp_iload_n 2 dX12_firstCause_38 rfl).ok _,
  List.forall_mem_cons.mpr ⟨mo_iret dX12_firstCause_39,
  fun _ h => absurd h List.not_mem_nil⟩⟩⟩⟩⟩⟩⟩⟩⟩⟩⟩⟩⟩⟩⟩⟩⟩⟩⟩⟩⟩⟩⟩⟩⟩⟩⟩⟩
set_option maxRecDepth 100000 in
theorem ok_X12_firstCause (l : Launch) (G : am_G) (hG : am_ok G) (hX : am_xs G) : ∀ q ∈ cl_X12_firstCause, am_Ok l G cX12_firstCause 3 yX12_firstCause.cls wa_X12_firstCause (am_ro 0) (some .int) q.2 q.1 := by
  exact ok_X12_firstCause_0 l G hG hX
set_option maxRecDepth 100000 in
theorem sm_X12_firstCause (l : Launch) (G : am_G) (hG : am_ok G) (hX : am_xs G) : am_mS sp_X12_firstCause := fun av σ R R1 hR h => ⟨h.1, am_Wp.mr (fun pc => (am_lk_ok (ok_X12_firstCause l G hG hX) pc).1) hR h.2⟩
set_option maxRecDepth 100000 in
theorem m_X12_firstCause (l : Launch) (G : am_G) (hG : am_ok G) (hX : am_xs G) : am_Met l G yX12_firstCause wa_X12_firstCause (am_ro 0) sp_X12_firstCause :=
  am_met hG (am_lk cl_X12_firstCause) 2 (by decide +kernel) rfl (by decide) (am_lk_ok (ok_X12_firstCause l G hG hX)) (v_X12_firstCause (fun pc => (am_lk_ok (ok_X12_firstCause l G hG hX) pc).1))
set_option maxRecDepth 100000 in
theorem hv_X12_here : yX12_here.cls = RX12 ∧ yX12_here.cls ≠ "java/lang/invoke/MethodHandle" ∧ yX12_here.cls ≠ "java/lang/invoke/VarHandle" ∧ (parseMethodDescriptor yX12_here.desc).map (fun d => d.parameters.length) = some 0 := by decide +kernel
set_option maxRecDepth 100000 in
theorem hd_X12_here : yX12_here.cls ≠ "java/lang/invoke/MethodHandle" ∧ yX12_here.cls ≠ "java/lang/invoke/VarHandle" ∧ (parseMethodDescriptor yX12_here.desc).map (fun d => d.parameters.length) = some 0 := hv_X12_here.2
abbrev wa_X12_here : List Cond := Cond.code yX12_here cX12_here 1 (some .int) :: am_tb
set_option maxRecDepth 100000 in
theorem ok_X12_here_0 (l : Launch) (G : am_G) (hG : am_ok G) (hX : am_xs G) : ∀ q ∈ (cl_X12_here.drop 0).take 30, am_Ok l G cX12_here 1 yX12_here.cls wa_X12_here (am_ro 0) (some .int) q.2 q.1 :=
  List.forall_mem_cons.mpr ⟨(mp_aload_n 0 dX12_here_0 rfl).ok _,
  List.forall_mem_cons.mpr ⟨(mq_getf 12 7 dX12_here_1 rfl iu_X12 (by decide) tw_1220 rfl).ok _,
  List.forall_mem_cons.mpr ⟨(mp_aload_n 0 dX12_here_4 rfl).ok _,
  List.forall_mem_cons.mpr ⟨(mq_getf 12 5 dX12_here_5 rfl iu_X12 (by decide) tw_1218 rfl).ok _,
  List.forall_mem_cons.mpr ⟨(mp_icmp_ge 23 dX12_here_8 (by decide)).ok _,
  List.forall_mem_cons.mpr ⟨(mp_aload_n 0 dX12_here_11 rfl).ok _,
  List.forall_mem_cons.mpr ⟨(mq_getf 12 4 dX12_here_12 rfl iu_X12 (by decide) tw_1217 rfl).ok _,
  List.forall_mem_cons.mpr ⟨(mp_aload_n 0 dX12_here_15 rfl).ok _,
  List.forall_mem_cons.mpr ⟨(mq_getf 12 7 dX12_here_16 rfl iu_X12 (by decide) tw_1220 rfl).ok _,
  List.forall_mem_cons.mpr ⟨(mp_iald dX12_here_19).ok _,
  List.forall_mem_cons.mpr ⟨(mp_goto 24 dX12_here_20 (by decide)).ok _,
  List.forall_mem_cons.mpr ⟨(mp_iconst (-1) dX12_here_23 rfl).ok _,
  List.forall_mem_cons.mpr ⟨mo_iret dX12_here_24,
  fun _ h => absurd h List.not_mem_nil⟩⟩⟩⟩⟩⟩⟩⟩⟩⟩⟩⟩⟩
set_option maxRecDepth 100000 in
theorem ok_X12_here (l : Launch) (G : am_G) (hG : am_ok G) (hX : am_xs G) : ∀ q ∈ cl_X12_here, am_Ok l G cX12_here 1 yX12_here.cls wa_X12_here (am_ro 0) (some .int) q.2 q.1 := by
  exact ok_X12_here_0 l G hG hX
set_option maxRecDepth 100000 in
theorem sm_X12_here (l : Launch) (G : am_G) (hG : am_ok G) (hX : am_xs G) : am_mS sp_X12_here := fun av σ R R1 hR h => ⟨h.1, am_Wp.mr (fun pc => (am_lk_ok (ok_X12_here l G hG hX) pc).1) hR h.2⟩
set_option maxRecDepth 100000 in
theorem m_X12_here (l : Launch) (G : am_G) (hG : am_ok G) (hX : am_xs G) : am_Met l G yX12_here wa_X12_here (am_ro 0) sp_X12_here :=
  am_met hG (am_lk cl_X12_here) 1 (by decide +kernel) rfl (by decide) (am_lk_ok (ok_X12_here l G hG hX)) (v_X12_here (fun pc => (am_lk_ok (ok_X12_here l G hG hX) pc).1))
set_option maxRecDepth 100000 in
theorem hv_X12_in : yX12_in.cls = RX12 ∧ yX12_in.cls ≠ "java/lang/invoke/MethodHandle" ∧ yX12_in.cls ≠ "java/lang/invoke/VarHandle" ∧ (parseMethodDescriptor yX12_in.desc).map (fun d => d.parameters.length) = some 3 := by decide +kernel
set_option maxRecDepth 100000 in
theorem hd_X12_in : yX12_in.cls ≠ "java/lang/invoke/MethodHandle" ∧ yX12_in.cls ≠ "java/lang/invoke/VarHandle" ∧ (parseMethodDescriptor yX12_in.desc).map (fun d => d.parameters.length) = some 3 := hv_X12_in.2
abbrev wa_X12_in : List Cond := Cond.code yX12_in cX12_in 3 (some .boolean) :: am_tb
set_option maxRecDepth 100000 in
theorem ok_X12_in_0 (l : Launch) (G : am_G) (hG : am_ok G) (hX : am_xs G) : ∀ q ∈ (cl_X12_in.drop 0).take 30, am_Ok l G cX12_in 3 yX12_in.cls wa_X12_in (am_ro 0) (some .boolean) q.2 q.1 :=
  List.forall_mem_cons.mpr ⟨(mp_iload_n 0 dX12_in_0 rfl).ok _,
  List.forall_mem_cons.mpr ⟨(mp_iload_n 1 dX12_in_1 rfl).ok _,
  List.forall_mem_cons.mpr ⟨(mp_icmp_lt 14 dX12_in_2 (by decide)).ok _,
  List.forall_mem_cons.mpr ⟨(mp_iload_n 0 dX12_in_5 rfl).ok _,
  List.forall_mem_cons.mpr ⟨(mp_iload_n 2 dX12_in_6 rfl).ok _,
  List.forall_mem_cons.mpr ⟨(mp_icmp_gt 14 dX12_in_7 (by decide)).ok _,
  List.forall_mem_cons.mpr ⟨(mp_iconst (1) dX12_in_10 rfl).ok _,
  List.forall_mem_cons.mpr ⟨(mp_goto 15 dX12_in_11 (by decide)).ok _,
  List.forall_mem_cons.mpr ⟨(mp_iconst (0) dX12_in_14 rfl).ok _,
  List.forall_mem_cons.mpr ⟨mo_zret dX12_in_15,
  fun _ h => absurd h List.not_mem_nil⟩⟩⟩⟩⟩⟩⟩⟩⟩⟩
set_option maxRecDepth 100000 in
theorem ok_X12_in (l : Launch) (G : am_G) (hG : am_ok G) (hX : am_xs G) : ∀ q ∈ cl_X12_in, am_Ok l G cX12_in 3 yX12_in.cls wa_X12_in (am_ro 0) (some .boolean) q.2 q.1 := by
  exact ok_X12_in_0 l G hG hX
set_option maxRecDepth 100000 in
theorem sm_X12_in (l : Launch) (G : am_G) (hG : am_ok G) (hX : am_xs G) : am_mS sp_X12_in := fun av σ R R1 hR h => ⟨h.1, am_Wp.mr (fun pc => (am_lk_ok (ok_X12_in l G hG hX) pc).1) hR h.2⟩
set_option maxRecDepth 100000 in
theorem m_X12_in (l : Launch) (G : am_G) (hG : am_ok G) (hX : am_xs G) : am_Met l G yX12_in wa_X12_in (am_ro 0) sp_X12_in :=
  am_met hG (am_lk cl_X12_in) 3 (by decide +kernel) rfl (by decide) (am_lk_ok (ok_X12_in l G hG hX)) (v_X12_in (fun pc => (am_lk_ok (ok_X12_in l G hG hX) pc).1))
set_option maxRecDepth 100000 in
theorem hv_X12_queues : yX12_queues.cls = RX12 ∧ yX12_queues.cls ≠ "java/lang/invoke/MethodHandle" ∧ yX12_queues.cls ≠ "java/lang/invoke/VarHandle" ∧ (parseMethodDescriptor yX12_queues.desc).map (fun d => d.parameters.length) = some 1 := by decide +kernel
set_option maxRecDepth 100000 in
theorem hd_X12_queues : yX12_queues.cls ≠ "java/lang/invoke/MethodHandle" ∧ yX12_queues.cls ≠ "java/lang/invoke/VarHandle" ∧ (parseMethodDescriptor yX12_queues.desc).map (fun d => d.parameters.length) = some 1 := hv_X12_queues.2
abbrev wa_X12_queues : List Cond := Cond.code yX12_queues cX12_queues 3 none :: am_tb
set_option maxRecDepth 100000 in
theorem ok_X12_queues_0 (l : Launch) (G : am_G) (hG : am_ok G) (hX : am_xs G) : ∀ q ∈ (cl_X12_queues.drop 0).take 30, am_Ok l G cX12_queues 3 yX12_queues.cls wa_X12_queues (am_ro 0) none q.2 q.1 :=
  List.forall_mem_cons.mpr ⟨(mp_iconst (0) dX12_queues_0 rfl).ok _,
  List.forall_mem_cons.mpr ⟨(mp_istore_n 2 dX12_queues_1 rfl (by decide)).ok _,
  List.forall_mem_cons.mpr ⟨(mp_iload_n 2 dX12_queues_2 rfl).ok _,
  List.forall_mem_cons.mpr ⟨(mp_aload_n 0 dX12_queues_3 rfl).ok _,
  List.forall_mem_cons.mpr ⟨(mq_getf 12 1 dX12_queues_4 rfl iu_X12 (by decide) tw_1214 rfl).ok _,
  List.forall_mem_cons.mpr ⟨(mp_sipush (173) dX12_queues_7 (by decide)).ok _,
  List.forall_mem_cons.mpr ⟨(mp_iald dX12_queues_10).ok _,
  List.forall_mem_cons.mpr ⟨(mp_icmp_ge 35 dX12_queues_11 (by decide)).ok _,
  List.forall_mem_cons.mpr ⟨(mp_aload_n 0 dX12_queues_14 rfl).ok _,
  List.forall_mem_cons.mpr ⟨(mq_getf 12 1 dX12_queues_15 rfl iu_X12 (by decide) tw_1214 rfl).ok _,
  List.forall_mem_cons.mpr ⟨(mp_sipush (183) dX12_queues_18 (by decide)).ok _,
  List.forall_mem_cons.mpr ⟨(mp_iload_n 2 dX12_queues_21 rfl).ok _,
  List.forall_mem_cons.mpr ⟨(mp_iadd dX12_queues_22).ok _,
  List.forall_mem_cons.mpr ⟨(mp_iald dX12_queues_23).ok _,
  List.forall_mem_cons.mpr ⟨(mp_iload_n 1 dX12_queues_24 rfl).ok _,
  List.forall_mem_cons.mpr ⟨(mp_icmp_ne 29 dX12_queues_25 (by decide)).ok _,
  List.forall_mem_cons.mpr ⟨mo_vret dX12_queues_28,
  List.forall_mem_cons.mpr ⟨(mp_iinc 2 (1) dX12_queues_29 rfl (by decide)).ok _,
  List.forall_mem_cons.mpr ⟨(mp_goto 2 dX12_queues_32 (by decide)).ok _,
  List.forall_mem_cons.mpr ⟨(mp_aload_n 0 dX12_queues_35 rfl).ok _,
  List.forall_mem_cons.mpr ⟨(mq_getf 12 1 dX12_queues_36 rfl iu_X12 (by decide) tw_1214 rfl).ok _,
  List.forall_mem_cons.mpr ⟨(mp_sipush (183) dX12_queues_39 (by decide)).ok _,
  List.forall_mem_cons.mpr ⟨(mp_aload_n 0 dX12_queues_42 rfl).ok _,
  List.forall_mem_cons.mpr ⟨(mq_getf 12 1 dX12_queues_43 rfl iu_X12 (by decide) tw_1214 rfl).ok _,
  List.forall_mem_cons.mpr ⟨(mp_sipush (173) dX12_queues_46 (by decide)).ok _,
  List.forall_mem_cons.mpr ⟨(mp_dup2 dX12_queues_49).ok _,
  List.forall_mem_cons.mpr ⟨(mp_iald dX12_queues_50).ok _,
  List.forall_mem_cons.mpr ⟨(mp_dup_x2 dX12_queues_51).ok _,
  List.forall_mem_cons.mpr ⟨(mp_iconst (1) dX12_queues_52 rfl).ok _,
  List.forall_mem_cons.mpr ⟨(mp_iadd dX12_queues_53).ok _,
  fun _ h => absurd h List.not_mem_nil⟩⟩⟩⟩⟩⟩⟩⟩⟩⟩⟩⟩⟩⟩⟩⟩⟩⟩⟩⟩⟩⟩⟩⟩⟩⟩⟩⟩⟩⟩
set_option maxRecDepth 100000 in
theorem ok_X12_queues_1 (l : Launch) (G : am_G) (hG : am_ok G) (hX : am_xs G) : ∀ q ∈ (cl_X12_queues.drop 30).take 30, am_Ok l G cX12_queues 3 yX12_queues.cls wa_X12_queues (am_ro 0) none q.2 q.1 :=
  List.forall_mem_cons.mpr ⟨(mp_iast dX12_queues_54).ok _,
  List.forall_mem_cons.mpr ⟨(mp_iadd dX12_queues_55).ok _,
  List.forall_mem_cons.mpr ⟨(mp_iload_n 1 dX12_queues_56 rfl).ok _,
  List.forall_mem_cons.mpr ⟨(mp_iast dX12_queues_57).ok _,
  List.forall_mem_cons.mpr ⟨mo_vret dX12_queues_58,
  fun _ h => absurd h List.not_mem_nil⟩⟩⟩⟩⟩
set_option maxRecDepth 100000 in
theorem ok_X12_queues (l : Launch) (G : am_G) (hG : am_ok G) (hX : am_xs G) : ∀ q ∈ cl_X12_queues, am_Ok l G cX12_queues 3 yX12_queues.cls wa_X12_queues (am_ro 0) none q.2 q.1 := by
  have e : cl_X12_queues = ((cl_X12_queues.drop 0).take 30) ++ (((cl_X12_queues.drop 30).take 30)) := rfl
  rw [e]
  exact List.forall_mem_append.mpr ⟨ok_X12_queues_0 l G hG hX, ok_X12_queues_1 l G hG hX⟩
set_option maxRecDepth 100000 in
theorem sm_X12_queues (l : Launch) (G : am_G) (hG : am_ok G) (hX : am_xs G) : am_mS sp_X12_queues := fun av σ R R1 hR h => ⟨h.1, am_Wp.mr (fun pc => (am_lk_ok (ok_X12_queues l G hG hX) pc).1) hR h.2⟩
set_option maxRecDepth 100000 in
theorem m_X12_queues (l : Launch) (G : am_G) (hG : am_ok G) (hX : am_xs G) : am_Met l G yX12_queues wa_X12_queues (am_ro 0) sp_X12_queues :=
  am_met hG (am_lk cl_X12_queues) 2 (by decide +kernel) rfl (by decide) (am_lk_ok (ok_X12_queues l G hG hX)) (v_X12_queues (fun pc => (am_lk_ok (ok_X12_queues l G hG hX) pc).1))
set_option maxRecDepth 100000 in
theorem hv_X12_raises : yX12_raises.cls = RX12 ∧ yX12_raises.cls ≠ "java/lang/invoke/MethodHandle" ∧ yX12_raises.cls ≠ "java/lang/invoke/VarHandle" ∧ (parseMethodDescriptor yX12_raises.desc).map (fun d => d.parameters.length) = some 1 := by decide +kernel
set_option maxRecDepth 100000 in
theorem hd_X12_raises : yX12_raises.cls ≠ "java/lang/invoke/MethodHandle" ∧ yX12_raises.cls ≠ "java/lang/invoke/VarHandle" ∧ (parseMethodDescriptor yX12_raises.desc).map (fun d => d.parameters.length) = some 1 := hv_X12_raises.2
abbrev wa_X12_raises : List Cond := Cond.code yX12_raises cX12_raises 2 (some .int) :: am_tb
set_option maxRecDepth 100000 in
theorem ok_X12_raises_0 (l : Launch) (G : am_G) (hG : am_ok G) (hX : am_xs G) : ∀ q ∈ (cl_X12_raises.drop 0).take 30, am_Ok l G cX12_raises 2 yX12_raises.cls wa_X12_raises (am_ro 0) (some .int) q.2 q.1 :=
  List.forall_mem_cons.mpr ⟨(mp_aload_n 0 dX12_raises_0 rfl).ok _,
  List.forall_mem_cons.mpr ⟨(mp_iload_n 1 dX12_raises_1 rfl).ok _,
  List.forall_mem_cons.mpr ⟨(mq_putf 12 0 dX12_raises_2 rfl iu_X12 tyX12 tyX12_ok nmX12 (by decide) tw_1213 rfl rfl (by decide +kernel)).ok _,
  List.forall_mem_cons.mpr ⟨(mp_iconst (0) dX12_raises_5 rfl).ok _,
  List.forall_mem_cons.mpr ⟨mo_iret dX12_raises_6,
  fun _ h => absurd h List.not_mem_nil⟩⟩⟩⟩⟩
set_option maxRecDepth 100000 in
theorem ok_X12_raises (l : Launch) (G : am_G) (hG : am_ok G) (hX : am_xs G) : ∀ q ∈ cl_X12_raises, am_Ok l G cX12_raises 2 yX12_raises.cls wa_X12_raises (am_ro 0) (some .int) q.2 q.1 := by
  exact ok_X12_raises_0 l G hG hX
set_option maxRecDepth 100000 in
theorem sm_X12_raises (l : Launch) (G : am_G) (hG : am_ok G) (hX : am_xs G) : am_mS sp_X12_raises := fun av σ R R1 hR h => ⟨h.1, am_Wp.mr (fun pc => (am_lk_ok (ok_X12_raises l G hG hX) pc).1) hR h.2⟩
set_option maxRecDepth 100000 in
theorem m_X12_raises (l : Launch) (G : am_G) (hG : am_ok G) (hX : am_xs G) : am_Met l G yX12_raises wa_X12_raises (am_ro 0) sp_X12_raises :=
  am_met hG (am_lk cl_X12_raises) 2 (by decide +kernel) rfl (by decide) (am_lk_ok (ok_X12_raises l G hG hX)) (v_X12_raises (fun pc => (am_lk_ok (ok_X12_raises l G hG hX) pc).1))
set_option maxRecDepth 100000 in
theorem hv_X12_save : yX12_save.cls = RX12 ∧ yX12_save.cls ≠ "java/lang/invoke/MethodHandle" ∧ yX12_save.cls ≠ "java/lang/invoke/VarHandle" ∧ (parseMethodDescriptor yX12_save.desc).map (fun d => d.parameters.length) = some 0 := by decide +kernel
set_option maxRecDepth 100000 in
theorem hd_X12_save : yX12_save.cls ≠ "java/lang/invoke/MethodHandle" ∧ yX12_save.cls ≠ "java/lang/invoke/VarHandle" ∧ (parseMethodDescriptor yX12_save.desc).map (fun d => d.parameters.length) = some 0 := hv_X12_save.2
abbrev wa_X12_save : List Cond := Cond.code yX12_save cX12_save 2 (some .int) :: am_tb
set_option maxRecDepth 100000 in
theorem ok_X12_save_0 (l : Launch) (G : am_G) (hG : am_ok G) (hX : am_xs G) : ∀ q ∈ (cl_X12_save.drop 0).take 30, am_Ok l G cX12_save 2 yX12_save.cls wa_X12_save (am_ro 0) (some .int) q.2 q.1 :=
  List.forall_mem_cons.mpr ⟨(mp_aload_n 0 dX12_save_0 rfl).ok _,
  List.forall_mem_cons.mpr ⟨(mp_iconst (0) dX12_save_1 rfl).ok _,
  List.forall_mem_cons.mpr ⟨(mq_putf 12 0 dX12_save_2 rfl iu_X12 tyX12 tyX12_ok nmX12 (by decide) tw_1213 rfl rfl (by decide +kernel)).ok _,
  List.forall_mem_cons.mpr ⟨(mp_aload_n 0 dX12_save_5 rfl).ok _,
  List.forall_mem_cons.mpr ⟨(mp_iconst (1) dX12_save_6 rfl).ok _,
  List.forall_mem_cons.mpr ⟨(mq_putz 12 3 dX12_save_7 rfl iu_X12 tyX12 tyX12_ok nmX12 (by decide) tw_1216 rfl rfl (by decide +kernel)).ok _,
  List.forall_mem_cons.mpr ⟨(mp_iconst (0) dX12_save_10 rfl).ok _,
  List.forall_mem_cons.mpr ⟨(mp_istore_n 1 dX12_save_11 rfl (by decide)).ok _,
  List.forall_mem_cons.mpr ⟨(mp_iload_n 1 dX12_save_12 rfl).ok _,
  List.forall_mem_cons.mpr ⟨(mp_sipush (9231) dX12_save_13 (by decide)).ok _,
  List.forall_mem_cons.mpr ⟨(mp_icmp_ge 37 dX12_save_16 (by decide)).ok _,
  List.forall_mem_cons.mpr ⟨(mp_aload_n 0 dX12_save_19 rfl).ok _,
  List.forall_mem_cons.mpr ⟨(mq_getf 12 2 dX12_save_20 rfl iu_X12 (by decide) tw_1215 rfl).ok _,
  List.forall_mem_cons.mpr ⟨(mp_iload_n 1 dX12_save_23 rfl).ok _,
  List.forall_mem_cons.mpr ⟨(mp_aload_n 0 dX12_save_24 rfl).ok _,
  List.forall_mem_cons.mpr ⟨(mq_getf 12 1 dX12_save_25 rfl iu_X12 (by decide) tw_1214 rfl).ok _,
  List.forall_mem_cons.mpr ⟨(mp_iload_n 1 dX12_save_28 rfl).ok _,
  List.forall_mem_cons.mpr ⟨(mp_iald dX12_save_29).ok _,
  List.forall_mem_cons.mpr ⟨(mp_iast dX12_save_30).ok _,
  List.forall_mem_cons.mpr ⟨(mp_iinc 1 (1) dX12_save_31 rfl (by decide)).ok _,
  List.forall_mem_cons.mpr ⟨(mp_goto 12 dX12_save_34 (by decide)).ok _,
  List.forall_mem_cons.mpr ⟨(mp_aload_n 0 dX12_save_37 rfl).ok _,
  List.forall_mem_cons.mpr ⟨(mq_getf 12 1 dX12_save_38 rfl iu_X12 (by decide) tw_1214 rfl).ok _,
  List.forall_mem_cons.mpr ⟨(mp_sipush (170) dX12_save_41 (by decide)).ok _,
  List.forall_mem_cons.mpr ⟨(mp_iald dX12_save_44).ok _,
  List.forall_mem_cons.mpr ⟨mo_iret dX12_save_45,
  fun _ h => absurd h List.not_mem_nil⟩⟩⟩⟩⟩⟩⟩⟩⟩⟩⟩⟩⟩⟩⟩⟩⟩⟩⟩⟩⟩⟩⟩⟩⟩⟩
set_option maxRecDepth 100000 in
theorem ok_X12_save (l : Launch) (G : am_G) (hG : am_ok G) (hX : am_xs G) : ∀ q ∈ cl_X12_save, am_Ok l G cX12_save 2 yX12_save.cls wa_X12_save (am_ro 0) (some .int) q.2 q.1 := by
  exact ok_X12_save_0 l G hG hX
set_option maxRecDepth 100000 in
theorem sm_X12_save (l : Launch) (G : am_G) (hG : am_ok G) (hX : am_xs G) : am_mS sp_X12_save := fun av σ R R1 hR h => ⟨h.1, am_Wp.mr (fun pc => (am_lk_ok (ok_X12_save l G hG hX) pc).1) hR h.2⟩
set_option maxRecDepth 100000 in
theorem m_X12_save (l : Launch) (G : am_G) (hG : am_ok G) (hX : am_xs G) : am_Met l G yX12_save wa_X12_save (am_ro 0) sp_X12_save :=
  am_met hG (am_lk cl_X12_save) 1 (by decide +kernel) rfl (by decide) (am_lk_ok (ok_X12_save l G hG hX)) (v_X12_save (fun pc => (am_lk_ok (ok_X12_save l G hG hX) pc).1))
set_option maxRecDepth 100000 in
theorem hv_X12_scope : yX12_scope.cls = RX12 ∧ yX12_scope.cls ≠ "java/lang/invoke/MethodHandle" ∧ yX12_scope.cls ≠ "java/lang/invoke/VarHandle" ∧ (parseMethodDescriptor yX12_scope.desc).map (fun d => d.parameters.length) = some 1 := by decide +kernel
set_option maxRecDepth 100000 in
theorem hd_X12_scope : yX12_scope.cls ≠ "java/lang/invoke/MethodHandle" ∧ yX12_scope.cls ≠ "java/lang/invoke/VarHandle" ∧ (parseMethodDescriptor yX12_scope.desc).map (fun d => d.parameters.length) = some 1 := hv_X12_scope.2
abbrev wa_X12_scope : List Cond := Cond.code yX12_scope cX12_scope 1 (some .int) :: am_tb
set_option maxRecDepth 100000 in
theorem ok_X12_scope_0 (l : Launch) (G : am_G) (hG : am_ok G) (hX : am_xs G) : ∀ q ∈ (cl_X12_scope.drop 0).take 30, am_Ok l G cX12_scope 1 yX12_scope.cls wa_X12_scope (am_ro 0) (some .int) q.2 q.1 :=
  List.forall_mem_cons.mpr ⟨(mp_sipush (1311) dX12_scope_0 (by decide)).ok _,
  List.forall_mem_cons.mpr ⟨(mp_bipush (32) dX12_scope_3 (by decide)).ok _,
  List.forall_mem_cons.mpr ⟨(mp_iload_n 0 dX12_scope_5 rfl).ok _,
  List.forall_mem_cons.mpr ⟨(mp_imul dX12_scope_6).ok _,
  List.forall_mem_cons.mpr ⟨(mp_iadd dX12_scope_7).ok _,
  List.forall_mem_cons.mpr ⟨mo_iret dX12_scope_8,
  fun _ h => absurd h List.not_mem_nil⟩⟩⟩⟩⟩⟩
set_option maxRecDepth 100000 in
theorem ok_X12_scope (l : Launch) (G : am_G) (hG : am_ok G) (hX : am_xs G) : ∀ q ∈ cl_X12_scope, am_Ok l G cX12_scope 1 yX12_scope.cls wa_X12_scope (am_ro 0) (some .int) q.2 q.1 := by
  exact ok_X12_scope_0 l G hG hX
set_option maxRecDepth 100000 in
theorem sm_X12_scope (l : Launch) (G : am_G) (hG : am_ok G) (hX : am_xs G) : am_mS sp_X12_scope := fun av σ R R1 hR h => ⟨h.1, am_Wp.mr (fun pc => (am_lk_ok (ok_X12_scope l G hG hX) pc).1) hR h.2⟩
set_option maxRecDepth 100000 in
theorem m_X12_scope (l : Launch) (G : am_G) (hG : am_ok G) (hX : am_xs G) : am_Met l G yX12_scope wa_X12_scope (am_ro 0) sp_X12_scope :=
  am_met hG (am_lk cl_X12_scope) 1 (by decide +kernel) rfl (by decide) (am_lk_ok (ok_X12_scope l G hG hX)) (v_X12_scope (fun pc => (am_lk_ok (ok_X12_scope l G hG hX) pc).1))
set_option maxRecDepth 100000 in
theorem hv_X12_task : yX12_task.cls = RX12 ∧ yX12_task.cls ≠ "java/lang/invoke/MethodHandle" ∧ yX12_task.cls ≠ "java/lang/invoke/VarHandle" ∧ (parseMethodDescriptor yX12_task.desc).map (fun d => d.parameters.length) = some 1 := by decide +kernel
set_option maxRecDepth 100000 in
theorem hd_X12_task : yX12_task.cls ≠ "java/lang/invoke/MethodHandle" ∧ yX12_task.cls ≠ "java/lang/invoke/VarHandle" ∧ (parseMethodDescriptor yX12_task.desc).map (fun d => d.parameters.length) = some 1 := hv_X12_task.2
abbrev wa_X12_task : List Cond := Cond.code yX12_task cX12_task 1 (some .int) :: am_tb
set_option maxRecDepth 100000 in
theorem ok_X12_task_0 (l : Launch) (G : am_G) (hG : am_ok G) (hX : am_xs G) : ∀ q ∈ (cl_X12_task.drop 0).take 30, am_Ok l G cX12_task 1 yX12_task.cls wa_X12_task (am_ro 0) (some .int) q.2 q.1 :=
  List.forall_mem_cons.mpr ⟨(mp_sipush (231) dX12_task_0 (by decide)).ok _,
  List.forall_mem_cons.mpr ⟨(mp_bipush (45) dX12_task_3 (by decide)).ok _,
  List.forall_mem_cons.mpr ⟨(mp_iload_n 0 dX12_task_5 rfl).ok _,
  List.forall_mem_cons.mpr ⟨(mp_imul dX12_task_6).ok _,
  List.forall_mem_cons.mpr ⟨(mp_iadd dX12_task_7).ok _,
  List.forall_mem_cons.mpr ⟨mo_iret dX12_task_8,
  fun _ h => absurd h List.not_mem_nil⟩⟩⟩⟩⟩⟩
set_option maxRecDepth 100000 in
theorem ok_X12_task (l : Launch) (G : am_G) (hG : am_ok G) (hX : am_xs G) : ∀ q ∈ cl_X12_task, am_Ok l G cX12_task 1 yX12_task.cls wa_X12_task (am_ro 0) (some .int) q.2 q.1 := by
  exact ok_X12_task_0 l G hG hX
set_option maxRecDepth 100000 in
theorem sm_X12_task (l : Launch) (G : am_G) (hG : am_ok G) (hX : am_xs G) : am_mS sp_X12_task := fun av σ R R1 hR h => ⟨h.1, am_Wp.mr (fun pc => (am_lk_ok (ok_X12_task l G hG hX) pc).1) hR h.2⟩
set_option maxRecDepth 100000 in
theorem m_X12_task (l : Launch) (G : am_G) (hG : am_ok G) (hX : am_xs G) : am_Met l G yX12_task wa_X12_task (am_ro 0) sp_X12_task :=
  am_met hG (am_lk cl_X12_task) 1 (by decide +kernel) rfl (by decide) (am_lk_ok (ok_X12_task l G hG hX)) (v_X12_task (fun pc => (am_lk_ok (ok_X12_task l G hG hX) pc).1))
set_option maxRecDepth 100000 in
theorem hv_X12_thrown : yX12_thrown.cls = RX12 ∧ yX12_thrown.cls ≠ "java/lang/invoke/MethodHandle" ∧ yX12_thrown.cls ≠ "java/lang/invoke/VarHandle" ∧ (parseMethodDescriptor yX12_thrown.desc).map (fun d => d.parameters.length) = some 0 := by decide +kernel
set_option maxRecDepth 100000 in
theorem hd_X12_thrown : yX12_thrown.cls ≠ "java/lang/invoke/MethodHandle" ∧ yX12_thrown.cls ≠ "java/lang/invoke/VarHandle" ∧ (parseMethodDescriptor yX12_thrown.desc).map (fun d => d.parameters.length) = some 0 := hv_X12_thrown.2
abbrev wa_X12_thrown : List Cond := Cond.code yX12_thrown cX12_thrown 1 (some .int) :: am_tb
set_option maxRecDepth 100000 in
theorem ok_X12_thrown_0 (l : Launch) (G : am_G) (hG : am_ok G) (hX : am_xs G) : ∀ q ∈ (cl_X12_thrown.drop 0).take 30, am_Ok l G cX12_thrown 1 yX12_thrown.cls wa_X12_thrown (am_ro 0) (some .int) q.2 q.1 :=
  List.forall_mem_cons.mpr ⟨(mp_aload_n 0 dX12_thrown_0 rfl).ok _,
  List.forall_mem_cons.mpr ⟨(mq_getf 12 0 dX12_thrown_1 rfl iu_X12 (by decide) tw_1213 rfl).ok _,
  List.forall_mem_cons.mpr ⟨mo_iret dX12_thrown_4,
  fun _ h => absurd h List.not_mem_nil⟩⟩⟩
set_option maxRecDepth 100000 in
theorem ok_X12_thrown (l : Launch) (G : am_G) (hG : am_ok G) (hX : am_xs G) : ∀ q ∈ cl_X12_thrown, am_Ok l G cX12_thrown 1 yX12_thrown.cls wa_X12_thrown (am_ro 0) (some .int) q.2 q.1 := by
  exact ok_X12_thrown_0 l G hG hX
set_option maxRecDepth 100000 in
theorem sm_X12_thrown (l : Launch) (G : am_G) (hG : am_ok G) (hX : am_xs G) : am_mS sp_X12_thrown := fun av σ R R1 hR h => ⟨h.1, am_Wp.mr (fun pc => (am_lk_ok (ok_X12_thrown l G hG hX) pc).1) hR h.2⟩
set_option maxRecDepth 100000 in
theorem m_X12_thrown (l : Launch) (G : am_G) (hG : am_ok G) (hX : am_xs G) : am_Met l G yX12_thrown wa_X12_thrown (am_ro 0) sp_X12_thrown :=
  am_met hG (am_lk cl_X12_thrown) 1 (by decide +kernel) rfl (by decide) (am_lk_ok (ok_X12_thrown l G hG hX)) (v_X12_thrown (fun pc => (am_lk_ok (ok_X12_thrown l G hG hX) pc).1))
set_option maxRecDepth 100000 in
theorem hv_X12_append : yX12_append.cls = RX12 ∧ yX12_append.cls ≠ "java/lang/invoke/MethodHandle" ∧ yX12_append.cls ≠ "java/lang/invoke/VarHandle" ∧ (parseMethodDescriptor yX12_append.desc).map (fun d => d.parameters.length) = some 1 := by decide +kernel
set_option maxRecDepth 100000 in
theorem hd_X12_append : yX12_append.cls ≠ "java/lang/invoke/MethodHandle" ∧ yX12_append.cls ≠ "java/lang/invoke/VarHandle" ∧ (parseMethodDescriptor yX12_append.desc).map (fun d => d.parameters.length) = some 1 := hv_X12_append.2
abbrev wa_X12_append : List Cond := Cond.code yX12_append cX12_append 5 (some .int) :: am_tb
set_option maxRecDepth 100000 in
theorem ok_X12_append_0 (l : Launch) (G : am_G) (hG : am_ok G) (hX : am_xs G) : ∀ q ∈ (cl_X12_append.drop 0).take 30, am_Ok l G cX12_append 5 yX12_append.cls wa_X12_append (am_ro 1) (some .int) q.2 q.1 :=
  List.forall_mem_cons.mpr ⟨(mp_aload_n 0 dX12_append_0 rfl).ok _,
  List.forall_mem_cons.mpr ⟨(mp_iconst (0) dX12_append_1 rfl).ok _,
  List.forall_mem_cons.mpr ⟨(mq_putf 12 0 dX12_append_2 rfl iu_X12 tyX12 tyX12_ok nmX12 (by decide) tw_1213 rfl rfl (by decide +kernel)).ok _,
  List.forall_mem_cons.mpr ⟨(mp_iconst (0) dX12_append_5 rfl).ok _,
  List.forall_mem_cons.mpr ⟨(mp_istore_n 2 dX12_append_6 rfl (by decide)).ok _,
  List.forall_mem_cons.mpr ⟨(mp_bipush (24) dX12_append_7 (by decide)).ok _,
  List.forall_mem_cons.mpr ⟨(mp_istore_n 3 dX12_append_9 rfl (by decide)).ok _,
  List.forall_mem_cons.mpr ⟨(mp_iload_n 3 dX12_append_10 rfl).ok _,
  List.forall_mem_cons.mpr ⟨(mp_if_lt 58 dX12_append_11 (by decide)).ok _,
  List.forall_mem_cons.mpr ⟨(mp_iload_n 1 dX12_append_14 rfl).ok _,
  List.forall_mem_cons.mpr ⟨(mp_iload_n 3 dX12_append_15 rfl).ok _,
  List.forall_mem_cons.mpr ⟨(mp_iushr dX12_append_16).ok _,
  List.forall_mem_cons.mpr ⟨(mp_sipush (255) dX12_append_17 (by decide)).ok _,
  List.forall_mem_cons.mpr ⟨(mp_iand dX12_append_20).ok _,
  List.forall_mem_cons.mpr ⟨(mp_istore 4 dX12_append_21 (by decide)).ok _,
  List.forall_mem_cons.mpr ⟨(mp_iload 4 dX12_append_23).ok _,
  List.forall_mem_cons.mpr ⟨(mp_if_ne 31 dX12_append_25 (by decide)).ok _,
  List.forall_mem_cons.mpr ⟨(mp_goto 52 dX12_append_28 (by decide)).ok _,
  List.forall_mem_cons.mpr ⟨(mp_iload 4 dX12_append_31).ok _,
  List.forall_mem_cons.mpr ⟨(mp_bipush (33) dX12_append_33 (by decide)).ok _,
  List.forall_mem_cons.mpr ⟨(mp_bipush (126) dX12_append_35 (by decide)).ok _,
  List.forall_mem_cons.mpr ⟨(mq_cs 3 (m_X12_in l G hG hX) (sm_X12_in l G hG hX) dX12_append_37 tw_1257 tw_1255 tw_1256 tw_14 rfl rfl hd_X12_in (Nat.le_of_ble_eq_true rfl) (Nat.le_of_ble_eq_true rfl)).ok _,
  List.forall_mem_cons.mpr ⟨(mp_if_ne 49 dX12_append_40 (by decide)).ok _,
  List.forall_mem_cons.mpr ⟨(mp_aload_n 0 dX12_append_43 rfl).ok _,
  List.forall_mem_cons.mpr ⟨(mp_iconst (1) dX12_append_44 rfl).ok _,
  List.forall_mem_cons.mpr ⟨(mq_cv 12 1 (m_X12_raises l G hG hX) (sm_X12_raises l G hG hX) dX12_append_45 rfl tw_1261 tw_1258 tw_1260 ts_34 tw_14 rfl rfl hv_X12_raises (Nat.le_of_ble_eq_true rfl) (Nat.le_of_ble_eq_true rfl)).ok _,
  List.forall_mem_cons.mpr ⟨mo_iret dX12_append_48,
  List.forall_mem_cons.mpr ⟨(mp_iinc 2 (1) dX12_append_49 rfl (by decide)).ok _,
  List.forall_mem_cons.mpr ⟨(mp_iinc 3 (-8) dX12_append_52 rfl (by decide)).ok _,
  List.forall_mem_cons.mpr ⟨(mp_goto 10 dX12_append_55 (by decide)).ok _,
  fun _ h => absurd h List.not_mem_nil⟩⟩⟩⟩⟩⟩⟩⟩⟩⟩⟩⟩⟩⟩⟩⟩⟩⟩⟩⟩⟩⟩⟩⟩⟩⟩⟩⟩⟩⟩
set_option maxRecDepth 100000 in
theorem ok_X12_append_1 (l : Launch) (G : am_G) (hG : am_ok G) (hX : am_xs G) : ∀ q ∈ (cl_X12_append.drop 30).take 30, am_Ok l G cX12_append 5 yX12_append.cls wa_X12_append (am_ro 1) (some .int) q.2 q.1 :=
  List.forall_mem_cons.mpr ⟨(mp_aload_n 0 dX12_append_58 rfl).ok _,
  List.forall_mem_cons.mpr ⟨(mq_getf 12 5 dX12_append_59 rfl iu_X12 (by decide) tw_1218 rfl).ok _,
  List.forall_mem_cons.mpr ⟨(mp_iload_n 2 dX12_append_62 rfl).ok _,
  List.forall_mem_cons.mpr ⟨(mp_iadd dX12_append_63).ok _,
  List.forall_mem_cons.mpr ⟨(mp_bipush (60) dX12_append_64 (by decide)).ok _,
  List.forall_mem_cons.mpr ⟨(mp_icmp_le 75 dX12_append_66 (by decide)).ok _,
  List.forall_mem_cons.mpr ⟨(mp_aload_n 0 dX12_append_69 rfl).ok _,
  List.forall_mem_cons.mpr ⟨(mp_iconst (2) dX12_append_70 rfl).ok _,
  List.forall_mem_cons.mpr ⟨(mq_cv 12 1 (m_X12_raises l G hG hX) (sm_X12_raises l G hG hX) dX12_append_71 rfl tw_1261 tw_1258 tw_1260 ts_34 tw_14 rfl rfl hv_X12_raises (Nat.le_of_ble_eq_true rfl) (Nat.le_of_ble_eq_true rfl)).ok _,
  List.forall_mem_cons.mpr ⟨mo_iret dX12_append_74,
  List.forall_mem_cons.mpr ⟨(mp_bipush (24) dX12_append_75 (by decide)).ok _,
  List.forall_mem_cons.mpr ⟨(mp_istore_n 3 dX12_append_77 rfl (by decide)).ok _,
  List.forall_mem_cons.mpr ⟨(mp_iload_n 3 dX12_append_78 rfl).ok _,
  List.forall_mem_cons.mpr ⟨(mp_if_lt 121 dX12_append_79 (by decide)).ok _,
  List.forall_mem_cons.mpr ⟨(mp_iload_n 1 dX12_append_82 rfl).ok _,
  List.forall_mem_cons.mpr ⟨(mp_iload_n 3 dX12_append_83 rfl).ok _,
  List.forall_mem_cons.mpr ⟨(mp_iushr dX12_append_84).ok _,
  List.forall_mem_cons.mpr ⟨(mp_sipush (255) dX12_append_85 (by decide)).ok _,
  List.forall_mem_cons.mpr ⟨(mp_iand dX12_append_88).ok _,
  List.forall_mem_cons.mpr ⟨(mp_if_eq 115 dX12_append_89 (by decide)).ok _,
  List.forall_mem_cons.mpr ⟨(mp_aload_n 0 dX12_append_92 rfl).ok _,
  List.forall_mem_cons.mpr ⟨(mq_getf 12 4 dX12_append_93 rfl iu_X12 (by decide) tw_1217 rfl).ok _,
  List.forall_mem_cons.mpr ⟨(mp_aload_n 0 dX12_append_96 rfl).ok _,
  List.forall_mem_cons.mpr ⟨(mp_dup dX12_append_97).ok _,
  List.forall_mem_cons.mpr ⟨(mq_getf 12 5 dX12_append_98 rfl iu_X12 (by decide) tw_1218 rfl).ok _,
  List.forall_mem_cons.mpr ⟨(mp_dup_x1 dX12_append_101).ok _,
  List.forall_mem_cons.mpr ⟨(mp_iconst (1) dX12_append_102 rfl).ok _,
  List.forall_mem_cons.mpr ⟨(mp_iadd dX12_append_103).ok _,
  List.forall_mem_cons.mpr ⟨(mq_putf 12 5 dX12_append_104 rfl iu_X12 tyX12 tyX12_ok nmX12 (by decide) tw_1218 rfl rfl (by decide +kernel)).ok _,
  List.forall_mem_cons.mpr ⟨(mp_iload_n 1 dX12_append_107 rfl).ok _,
  fun _ h => absurd h List.not_mem_nil⟩⟩⟩⟩⟩⟩⟩⟩⟩⟩⟩⟩⟩⟩⟩⟩⟩⟩⟩⟩⟩⟩⟩⟩⟩⟩⟩⟩⟩⟩
set_option maxRecDepth 100000 in
theorem ok_X12_append_2 (l : Launch) (G : am_G) (hG : am_ok G) (hX : am_xs G) : ∀ q ∈ (cl_X12_append.drop 60).take 30, am_Ok l G cX12_append 5 yX12_append.cls wa_X12_append (am_ro 1) (some .int) q.2 q.1 :=
  List.forall_mem_cons.mpr ⟨(mp_iload_n 3 dX12_append_108 rfl).ok _,
  List.forall_mem_cons.mpr ⟨(mp_iushr dX12_append_109).ok _,
  List.forall_mem_cons.mpr ⟨(mp_sipush (255) dX12_append_110 (by decide)).ok _,
  List.forall_mem_cons.mpr ⟨(mp_iand dX12_append_113).ok _,
  List.forall_mem_cons.mpr ⟨(mp_iast dX12_append_114).ok _,
  List.forall_mem_cons.mpr ⟨(mp_iinc 3 (-8) dX12_append_115 rfl (by decide)).ok _,
  List.forall_mem_cons.mpr ⟨(mp_goto 78 dX12_append_118 (by decide)).ok _,
  List.forall_mem_cons.mpr ⟨(mp_aload_n 0 dX12_append_121 rfl).ok _,
  List.forall_mem_cons.mpr ⟨(mq_getf 12 5 dX12_append_122 rfl iu_X12 (by decide) tw_1218 rfl).ok _,
  List.forall_mem_cons.mpr ⟨mo_iret dX12_append_125,
  fun _ h => absurd h List.not_mem_nil⟩⟩⟩⟩⟩⟩⟩⟩⟩⟩
set_option maxRecDepth 100000 in
theorem ok_X12_append (l : Launch) (G : am_G) (hG : am_ok G) (hX : am_xs G) : ∀ q ∈ cl_X12_append, am_Ok l G cX12_append 5 yX12_append.cls wa_X12_append (am_ro 1) (some .int) q.2 q.1 := by
  have e : cl_X12_append = ((cl_X12_append.drop 0).take 30) ++ (((cl_X12_append.drop 30).take 30) ++ (((cl_X12_append.drop 60).take 30))) := rfl
  rw [e]
  exact List.forall_mem_append.mpr ⟨ok_X12_append_0 l G hG hX, List.forall_mem_append.mpr ⟨ok_X12_append_1 l G hG hX, ok_X12_append_2 l G hG hX⟩⟩
set_option maxRecDepth 100000 in
theorem sm_X12_append (l : Launch) (G : am_G) (hG : am_ok G) (hX : am_xs G) : am_mS sp_X12_append := fun av σ R R1 hR h => ⟨h.1, am_Wp.mr (fun pc => (am_lk_ok (ok_X12_append l G hG hX) pc).1) hR h.2⟩
set_option maxRecDepth 100000 in
theorem m_X12_append (l : Launch) (G : am_G) (hG : am_ok G) (hX : am_xs G) : am_Met l G yX12_append wa_X12_append (am_ro 1) sp_X12_append :=
  am_met hG (am_lk cl_X12_append) 2 (by decide +kernel) rfl (by decide) (am_lk_ok (ok_X12_append l G hG hX)) (v_X12_append (fun pc => (am_lk_ok (ok_X12_append l G hG hX) pc).1))
set_option maxRecDepth 100000 in
theorem hv_X12_digit : yX12_digit.cls = RX12 ∧ yX12_digit.cls ≠ "java/lang/invoke/MethodHandle" ∧ yX12_digit.cls ≠ "java/lang/invoke/VarHandle" ∧ (parseMethodDescriptor yX12_digit.desc).map (fun d => d.parameters.length) = some 2 := by decide +kernel
set_option maxRecDepth 100000 in
theorem hd_X12_digit : yX12_digit.cls ≠ "java/lang/invoke/MethodHandle" ∧ yX12_digit.cls ≠ "java/lang/invoke/VarHandle" ∧ (parseMethodDescriptor yX12_digit.desc).map (fun d => d.parameters.length) = some 2 := hv_X12_digit.2
abbrev wa_X12_digit : List Cond := Cond.code yX12_digit cX12_digit 3 (some .int) :: am_tb
set_option maxRecDepth 100000 in
theorem ok_X12_digit_0 (l : Launch) (G : am_G) (hG : am_ok G) (hX : am_xs G) : ∀ q ∈ (cl_X12_digit.drop 0).take 30, am_Ok l G cX12_digit 3 yX12_digit.cls wa_X12_digit (am_ro 1) (some .int) q.2 q.1 :=
  List.forall_mem_cons.mpr ⟨(mp_aload_n 0 dX12_digit_0 rfl).ok _,
  List.forall_mem_cons.mpr ⟨(mq_cv 12 0 (m_X12_here l G hG hX) (sm_X12_here l G hG hX) dX12_digit_1 rfl tw_1273 tw_1270 tw_1272 ts_36 tw_14 rfl rfl hv_X12_here (Nat.le_of_ble_eq_true rfl) (Nat.le_of_ble_eq_true rfl)).ok _,
  List.forall_mem_cons.mpr ⟨(mp_iload_n 1 dX12_digit_4 rfl).ok _,
  List.forall_mem_cons.mpr ⟨(mp_iload_n 2 dX12_digit_5 rfl).ok _,
  List.forall_mem_cons.mpr ⟨(mq_cs 3 (m_X12_in l G hG hX) (sm_X12_in l G hG hX) dX12_digit_6 tw_1257 tw_1255 tw_1256 tw_14 rfl rfl hd_X12_in (Nat.le_of_ble_eq_true rfl) (Nat.le_of_ble_eq_true rfl)).ok _,
  List.forall_mem_cons.mpr ⟨(mp_if_eq 33 dX12_digit_9 (by decide)).ok _,
  List.forall_mem_cons.mpr ⟨(mp_aload_n 0 dX12_digit_12 rfl).ok _,
  List.forall_mem_cons.mpr ⟨(mq_getf 12 4 dX12_digit_13 rfl iu_X12 (by decide) tw_1217 rfl).ok _,
  List.forall_mem_cons.mpr ⟨(mp_aload_n 0 dX12_digit_16 rfl).ok _,
  List.forall_mem_cons.mpr ⟨(mp_dup dX12_digit_17).ok _,
  List.forall_mem_cons.mpr ⟨(mq_getf 12 7 dX12_digit_18 rfl iu_X12 (by decide) tw_1220 rfl).ok _,
  List.forall_mem_cons.mpr ⟨(mp_dup_x1 dX12_digit_21).ok _,
  List.forall_mem_cons.mpr ⟨(mp_iconst (1) dX12_digit_22 rfl).ok _,
  List.forall_mem_cons.mpr ⟨(mp_iadd dX12_digit_23).ok _,
  List.forall_mem_cons.mpr ⟨(mq_putf 12 7 dX12_digit_24 rfl iu_X12 tyX12 tyX12_ok nmX12 (by decide) tw_1220 rfl rfl (by decide +kernel)).ok _,
  List.forall_mem_cons.mpr ⟨(mp_iald dX12_digit_27).ok _,
  List.forall_mem_cons.mpr ⟨(mp_iload_n 1 dX12_digit_28 rfl).ok _,
  List.forall_mem_cons.mpr ⟨(mp_isub dX12_digit_29).ok _,
  List.forall_mem_cons.mpr ⟨(mp_goto 34 dX12_digit_30 (by decide)).ok _,
  List.forall_mem_cons.mpr ⟨(mp_iconst (-1) dX12_digit_33 rfl).ok _,
  List.forall_mem_cons.mpr ⟨mo_iret dX12_digit_34,
  fun _ h => absurd h List.not_mem_nil⟩⟩⟩⟩⟩⟩⟩⟩⟩⟩⟩⟩⟩⟩⟩⟩⟩⟩⟩⟩⟩
set_option maxRecDepth 100000 in
theorem ok_X12_digit (l : Launch) (G : am_G) (hG : am_ok G) (hX : am_xs G) : ∀ q ∈ cl_X12_digit, am_Ok l G cX12_digit 3 yX12_digit.cls wa_X12_digit (am_ro 1) (some .int) q.2 q.1 := by
  exact ok_X12_digit_0 l G hG hX
set_option maxRecDepth 100000 in
theorem sm_X12_digit (l : Launch) (G : am_G) (hG : am_ok G) (hX : am_xs G) : am_mS sp_X12_digit := fun av σ R R1 hR h => ⟨h.1, am_Wp.mr (fun pc => (am_lk_ok (ok_X12_digit l G hG hX) pc).1) hR h.2⟩
set_option maxRecDepth 100000 in
theorem m_X12_digit (l : Launch) (G : am_G) (hG : am_ok G) (hX : am_xs G) : am_Met l G yX12_digit wa_X12_digit (am_ro 1) sp_X12_digit :=
  am_met hG (am_lk cl_X12_digit) 3 (by decide +kernel) rfl (by decide) (am_lk_ok (ok_X12_digit l G hG hX)) (v_X12_digit (fun pc => (am_lk_ok (ok_X12_digit l G hG hX) pc).1))
set_option maxRecDepth 100000 in
theorem hv_X12_ended : yX12_ended.cls = RX12 ∧ yX12_ended.cls ≠ "java/lang/invoke/MethodHandle" ∧ yX12_ended.cls ≠ "java/lang/invoke/VarHandle" ∧ (parseMethodDescriptor yX12_ended.desc).map (fun d => d.parameters.length) = some 1 := by decide +kernel
set_option maxRecDepth 100000 in
theorem hd_X12_ended : yX12_ended.cls ≠ "java/lang/invoke/MethodHandle" ∧ yX12_ended.cls ≠ "java/lang/invoke/VarHandle" ∧ (parseMethodDescriptor yX12_ended.desc).map (fun d => d.parameters.length) = some 1 := hv_X12_ended.2
abbrev wa_X12_ended : List Cond := Cond.code yX12_ended cX12_ended 2 (some .int) :: am_tb
set_option maxRecDepth 100000 in
theorem ok_X12_ended_0 (l : Launch) (G : am_G) (hG : am_ok G) (hX : am_xs G) : ∀ q ∈ (cl_X12_ended.drop 0).take 30, am_Ok l G cX12_ended 2 yX12_ended.cls wa_X12_ended (am_ro 1) (some .int) q.2 q.1 :=
  List.forall_mem_cons.mpr ⟨(mp_aload_n 0 dX12_ended_0 rfl).ok _,
  List.forall_mem_cons.mpr ⟨(mp_iconst (0) dX12_ended_1 rfl).ok _,
  List.forall_mem_cons.mpr ⟨(mq_putf 12 0 dX12_ended_2 rfl iu_X12 tyX12 tyX12_ok nmX12 (by decide) tw_1213 rfl rfl (by decide +kernel)).ok _,
  List.forall_mem_cons.mpr ⟨(mp_iload_n 1 dX12_ended_5 rfl).ok _,
  List.forall_mem_cons.mpr ⟨(mp_iconst (0) dX12_ended_6 rfl).ok _,
  List.forall_mem_cons.mpr ⟨(mp_aload_n 0 dX12_ended_7 rfl).ok _,
  List.forall_mem_cons.mpr ⟨(mq_getf 12 1 dX12_ended_8 rfl iu_X12 (by decide) tw_1214 rfl).ok _,
  List.forall_mem_cons.mpr ⟨(mp_sipush (174) dX12_ended_11 (by decide)).ok _,
  List.forall_mem_cons.mpr ⟨(mp_iald dX12_ended_14).ok _,
  List.forall_mem_cons.mpr ⟨(mp_iconst (1) dX12_ended_15 rfl).ok _,
  List.forall_mem_cons.mpr ⟨(mp_isub dX12_ended_16).ok _,
  List.forall_mem_cons.mpr ⟨(mq_cs 3 (m_X12_in l G hG hX) (sm_X12_in l G hG hX) dX12_ended_17 tw_1257 tw_1255 tw_1256 tw_14 rfl rfl hd_X12_in (Nat.le_of_ble_eq_true rfl) (Nat.le_of_ble_eq_true rfl)).ok _,
  List.forall_mem_cons.mpr ⟨(mp_if_eq 36 dX12_ended_20 (by decide)).ok _,
  List.forall_mem_cons.mpr ⟨(mp_aload_n 0 dX12_ended_23 rfl).ok _,
  List.forall_mem_cons.mpr ⟨(mq_getf 12 1 dX12_ended_24 rfl iu_X12 (by decide) tw_1214 rfl).ok _,
  List.forall_mem_cons.mpr ⟨(mp_sipush (207) dX12_ended_27 (by decide)).ok _,
  List.forall_mem_cons.mpr ⟨(mp_iload_n 1 dX12_ended_30 rfl).ok _,
  List.forall_mem_cons.mpr ⟨(mp_iadd dX12_ended_31).ok _,
  List.forall_mem_cons.mpr ⟨(mp_iald dX12_ended_32).ok _,
  List.forall_mem_cons.mpr ⟨(mp_goto 41 dX12_ended_33 (by decide)).ok _,
  List.forall_mem_cons.mpr ⟨(mp_aload_n 0 dX12_ended_36 rfl).ok _,
  List.forall_mem_cons.mpr ⟨(mp_iconst (1) dX12_ended_37 rfl).ok _,
  List.forall_mem_cons.mpr ⟨(mq_cv 12 1 (m_X12_raises l G hG hX) (sm_X12_raises l G hG hX) dX12_ended_38 rfl tw_1261 tw_1258 tw_1260 ts_34 tw_14 rfl rfl hv_X12_raises (Nat.le_of_ble_eq_true rfl) (Nat.le_of_ble_eq_true rfl)).ok _,
  List.forall_mem_cons.mpr ⟨mo_iret dX12_ended_41,
  fun _ h => absurd h List.not_mem_nil⟩⟩⟩⟩⟩⟩⟩⟩⟩⟩⟩⟩⟩⟩⟩⟩⟩⟩⟩⟩⟩⟩⟩⟩
set_option maxRecDepth 100000 in
theorem ok_X12_ended (l : Launch) (G : am_G) (hG : am_ok G) (hX : am_xs G) : ∀ q ∈ cl_X12_ended, am_Ok l G cX12_ended 2 yX12_ended.cls wa_X12_ended (am_ro 1) (some .int) q.2 q.1 := by
  exact ok_X12_ended_0 l G hG hX
set_option maxRecDepth 100000 in
theorem sm_X12_ended (l : Launch) (G : am_G) (hG : am_ok G) (hX : am_xs G) : am_mS sp_X12_ended := fun av σ R R1 hR h => ⟨h.1, am_Wp.mr (fun pc => (am_lk_ok (ok_X12_ended l G hG hX) pc).1) hR h.2⟩
set_option maxRecDepth 100000 in
theorem m_X12_ended (l : Launch) (G : am_G) (hG : am_ok G) (hX : am_xs G) : am_Met l G yX12_ended wa_X12_ended (am_ro 1) sp_X12_ended :=
  am_met hG (am_lk cl_X12_ended) 2 (by decide +kernel) rfl (by decide) (am_lk_ok (ok_X12_ended l G hG hX)) (v_X12_ended (fun pc => (am_lk_ok (ok_X12_ended l G hG hX) pc).1))
set_option maxRecDepth 100000 in
theorem hv_X12_hasFresh : yX12_hasFresh.cls = RX12 ∧ yX12_hasFresh.cls ≠ "java/lang/invoke/MethodHandle" ∧ yX12_hasFresh.cls ≠ "java/lang/invoke/VarHandle" ∧ (parseMethodDescriptor yX12_hasFresh.desc).map (fun d => d.parameters.length) = some 1 := by decide +kernel
set_option maxRecDepth 100000 in
theorem hd_X12_hasFresh : yX12_hasFresh.cls ≠ "java/lang/invoke/MethodHandle" ∧ yX12_hasFresh.cls ≠ "java/lang/invoke/VarHandle" ∧ (parseMethodDescriptor yX12_hasFresh.desc).map (fun d => d.parameters.length) = some 1 := hv_X12_hasFresh.2
abbrev wa_X12_hasFresh : List Cond := Cond.code yX12_hasFresh cX12_hasFresh 2 (some .boolean) :: am_tb
set_option maxRecDepth 100000 in
theorem ok_X12_hasFresh_0 (l : Launch) (G : am_G) (hG : am_ok G) (hX : am_xs G) : ∀ q ∈ (cl_X12_hasFresh.drop 0).take 30, am_Ok l G cX12_hasFresh 2 yX12_hasFresh.cls wa_X12_hasFresh (am_ro 1) (some .boolean) q.2 q.1 :=
  List.forall_mem_cons.mpr ⟨(mp_aload_n 0 dX12_hasFresh_0 rfl).ok _,
  List.forall_mem_cons.mpr ⟨(mq_getf 12 1 dX12_hasFresh_1 rfl iu_X12 (by decide) tw_1214 rfl).ok _,
  List.forall_mem_cons.mpr ⟨(mp_iload_n 1 dX12_hasFresh_4 rfl).ok _,
  List.forall_mem_cons.mpr ⟨(mq_cs 1 (m_X12_scope l G hG hX) (sm_X12_scope l G hG hX) dX12_hasFresh_5 tw_1466 tw_1464 tw_1465 tw_14 rfl rfl hd_X12_scope (Nat.le_of_ble_eq_true rfl) (Nat.le_of_ble_eq_true rfl)).ok _,
  List.forall_mem_cons.mpr ⟨(mp_iconst (5) dX12_hasFresh_8 rfl).ok _,
  List.forall_mem_cons.mpr ⟨(mp_iadd dX12_hasFresh_9).ok _,
  List.forall_mem_cons.mpr ⟨(mp_iald dX12_hasFresh_10).ok _,
  List.forall_mem_cons.mpr ⟨(mp_iconst (1) dX12_hasFresh_11 rfl).ok _,
  List.forall_mem_cons.mpr ⟨(mp_icmp_ne 19 dX12_hasFresh_12 (by decide)).ok _,
  List.forall_mem_cons.mpr ⟨(mp_iconst (1) dX12_hasFresh_15 rfl).ok _,
  List.forall_mem_cons.mpr ⟨(mp_goto 20 dX12_hasFresh_16 (by decide)).ok _,
  List.forall_mem_cons.mpr ⟨(mp_iconst (0) dX12_hasFresh_19 rfl).ok _,
  List.forall_mem_cons.mpr ⟨mo_zret dX12_hasFresh_20,
  fun _ h => absurd h List.not_mem_nil⟩⟩⟩⟩⟩⟩⟩⟩⟩⟩⟩⟩⟩
set_option maxRecDepth 100000 in
theorem ok_X12_hasFresh (l : Launch) (G : am_G) (hG : am_ok G) (hX : am_xs G) : ∀ q ∈ cl_X12_hasFresh, am_Ok l G cX12_hasFresh 2 yX12_hasFresh.cls wa_X12_hasFresh (am_ro 1) (some .boolean) q.2 q.1 := by
  exact ok_X12_hasFresh_0 l G hG hX
set_option maxRecDepth 100000 in
theorem sm_X12_hasFresh (l : Launch) (G : am_G) (hG : am_ok G) (hX : am_xs G) : am_mS sp_X12_hasFresh := fun av σ R R1 hR h => ⟨h.1, am_Wp.mr (fun pc => (am_lk_ok (ok_X12_hasFresh l G hG hX) pc).1) hR h.2⟩
set_option maxRecDepth 100000 in
theorem m_X12_hasFresh (l : Launch) (G : am_G) (hG : am_ok G) (hX : am_xs G) : am_Met l G yX12_hasFresh wa_X12_hasFresh (am_ro 1) sp_X12_hasFresh :=
  am_met hG (am_lk cl_X12_hasFresh) 2 (by decide +kernel) rfl (by decide) (am_lk_ok (ok_X12_hasFresh l G hG hX)) (v_X12_hasFresh (fun pc => (am_lk_ok (ok_X12_hasFresh l G hG hX) pc).1))
set_option maxRecDepth 100000 in
theorem hv_X12_isChannel : yX12_isChannel.cls = RX12 ∧ yX12_isChannel.cls ≠ "java/lang/invoke/MethodHandle" ∧ yX12_isChannel.cls ≠ "java/lang/invoke/VarHandle" ∧ (parseMethodDescriptor yX12_isChannel.desc).map (fun d => d.parameters.length) = some 1 := by decide +kernel
set_option maxRecDepth 100000 in
theorem hd_X12_isChannel : yX12_isChannel.cls ≠ "java/lang/invoke/MethodHandle" ∧ yX12_isChannel.cls ≠ "java/lang/invoke/VarHandle" ∧ (parseMethodDescriptor yX12_isChannel.desc).map (fun d => d.parameters.length) = some 1 := hv_X12_isChannel.2
abbrev wa_X12_isChannel : List Cond := Cond.code yX12_isChannel cX12_isChannel 1 (some .boolean) :: am_tb
set_option maxRecDepth 100000 in
theorem ok_X12_isChannel_0 (l : Launch) (G : am_G) (hG : am_ok G) (hX : am_xs G) : ∀ q ∈ (cl_X12_isChannel.drop 0).take 30, am_Ok l G cX12_isChannel 1 yX12_isChannel.cls wa_X12_isChannel (am_ro 1) (some .boolean) q.2 q.1 :=
  List.forall_mem_cons.mpr ⟨(mp_iload_n 0 dX12_isChannel_0 rfl).ok _,
  List.forall_mem_cons.mpr ⟨(mp_iconst (0) dX12_isChannel_1 rfl).ok _,
  List.forall_mem_cons.mpr ⟨(mp_iconst (3) dX12_isChannel_2 rfl).ok _,
  List.forall_mem_cons.mpr ⟨(mq_cs 3 (m_X12_in l G hG hX) (sm_X12_in l G hG hX) dX12_isChannel_3 tw_1257 tw_1255 tw_1256 tw_14 rfl rfl hd_X12_in (Nat.le_of_ble_eq_true rfl) (Nat.le_of_ble_eq_true rfl)).ok _,
  List.forall_mem_cons.mpr ⟨mo_zret dX12_isChannel_6,
  fun _ h => absurd h List.not_mem_nil⟩⟩⟩⟩⟩
set_option maxRecDepth 100000 in
theorem ok_X12_isChannel (l : Launch) (G : am_G) (hG : am_ok G) (hX : am_xs G) : ∀ q ∈ cl_X12_isChannel, am_Ok l G cX12_isChannel 1 yX12_isChannel.cls wa_X12_isChannel (am_ro 1) (some .boolean) q.2 q.1 := by
  exact ok_X12_isChannel_0 l G hG hX
set_option maxRecDepth 100000 in
theorem sm_X12_isChannel (l : Launch) (G : am_G) (hG : am_ok G) (hX : am_xs G) : am_mS sp_X12_isChannel := fun av σ R R1 hR h => ⟨h.1, am_Wp.mr (fun pc => (am_lk_ok (ok_X12_isChannel l G hG hX) pc).1) hR h.2⟩
set_option maxRecDepth 100000 in
theorem m_X12_isChannel (l : Launch) (G : am_G) (hG : am_ok G) (hX : am_xs G) : am_Met l G yX12_isChannel wa_X12_isChannel (am_ro 1) sp_X12_isChannel :=
  am_met hG (am_lk cl_X12_isChannel) 1 (by decide +kernel) rfl (by decide) (am_lk_ok (ok_X12_isChannel l G hG hX)) (v_X12_isChannel (fun pc => (am_lk_ok (ok_X12_isChannel l G hG hX) pc).1))
set_option maxRecDepth 100000 in
theorem hv_X12_isDue : yX12_isDue.cls = RX12 ∧ yX12_isDue.cls ≠ "java/lang/invoke/MethodHandle" ∧ yX12_isDue.cls ≠ "java/lang/invoke/VarHandle" ∧ (parseMethodDescriptor yX12_isDue.desc).map (fun d => d.parameters.length) = some 1 := by decide +kernel
set_option maxRecDepth 100000 in
theorem hd_X12_isDue : yX12_isDue.cls ≠ "java/lang/invoke/MethodHandle" ∧ yX12_isDue.cls ≠ "java/lang/invoke/VarHandle" ∧ (parseMethodDescriptor yX12_isDue.desc).map (fun d => d.parameters.length) = some 1 := hv_X12_isDue.2
abbrev wa_X12_isDue : List Cond := Cond.code yX12_isDue cX12_isDue 2 (some .boolean) :: am_tb
set_option maxRecDepth 100000 in
theorem ok_X12_isDue_0 (l : Launch) (G : am_G) (hG : am_ok G) (hX : am_xs G) : ∀ q ∈ (cl_X12_isDue.drop 0).take 30, am_Ok l G cX12_isDue 2 yX12_isDue.cls wa_X12_isDue (am_ro 1) (some .boolean) q.2 q.1 :=
  List.forall_mem_cons.mpr ⟨(mp_aload_n 0 dX12_isDue_0 rfl).ok _,
  List.forall_mem_cons.mpr ⟨(mq_getf 12 1 dX12_isDue_1 rfl iu_X12 (by decide) tw_1214 rfl).ok _,
  List.forall_mem_cons.mpr ⟨(mp_iload_n 1 dX12_isDue_4 rfl).ok _,
  List.forall_mem_cons.mpr ⟨(mq_cs 1 (m_X12_scope l G hG hX) (sm_X12_scope l G hG hX) dX12_isDue_5 tw_1466 tw_1464 tw_1465 tw_14 rfl rfl hd_X12_scope (Nat.le_of_ble_eq_true rfl) (Nat.le_of_ble_eq_true rfl)).ok _,
  List.forall_mem_cons.mpr ⟨(mp_iconst (3) dX12_isDue_8 rfl).ok _,
  List.forall_mem_cons.mpr ⟨(mp_iadd dX12_isDue_9).ok _,
  List.forall_mem_cons.mpr ⟨(mp_iald dX12_isDue_10).ok _,
  List.forall_mem_cons.mpr ⟨(mp_iconst (2) dX12_isDue_11 rfl).ok _,
  List.forall_mem_cons.mpr ⟨(mp_icmp_ge 56 dX12_isDue_12 (by decide)).ok _,
  List.forall_mem_cons.mpr ⟨(mp_aload_n 0 dX12_isDue_15 rfl).ok _,
  List.forall_mem_cons.mpr ⟨(mq_getf 12 1 dX12_isDue_16 rfl iu_X12 (by decide) tw_1214 rfl).ok _,
  List.forall_mem_cons.mpr ⟨(mp_iload_n 1 dX12_isDue_19 rfl).ok _,
  List.forall_mem_cons.mpr ⟨(mq_cs 1 (m_X12_scope l G hG hX) (sm_X12_scope l G hG hX) dX12_isDue_20 tw_1466 tw_1464 tw_1465 tw_14 rfl rfl hd_X12_scope (Nat.le_of_ble_eq_true rfl) (Nat.le_of_ble_eq_true rfl)).ok _,
  List.forall_mem_cons.mpr ⟨(mp_iconst (2) dX12_isDue_23 rfl).ok _,
  List.forall_mem_cons.mpr ⟨(mp_iadd dX12_isDue_24).ok _,
  List.forall_mem_cons.mpr ⟨(mp_iald dX12_isDue_25).ok _,
  List.forall_mem_cons.mpr ⟨(mp_iconst (1) dX12_isDue_26 rfl).ok _,
  List.forall_mem_cons.mpr ⟨(mp_icmp_ne 56 dX12_isDue_27 (by decide)).ok _,
  List.forall_mem_cons.mpr ⟨(mp_aload_n 0 dX12_isDue_30 rfl).ok _,
  List.forall_mem_cons.mpr ⟨(mq_getf 12 1 dX12_isDue_31 rfl iu_X12 (by decide) tw_1214 rfl).ok _,
  List.forall_mem_cons.mpr ⟨(mp_iload_n 1 dX12_isDue_34 rfl).ok _,
  List.forall_mem_cons.mpr ⟨(mq_cs 1 (m_X12_scope l G hG hX) (sm_X12_scope l G hG hX) dX12_isDue_35 tw_1466 tw_1464 tw_1465 tw_14 rfl rfl hd_X12_scope (Nat.le_of_ble_eq_true rfl) (Nat.le_of_ble_eq_true rfl)).ok _,
  List.forall_mem_cons.mpr ⟨(mp_iconst (4) dX12_isDue_38 rfl).ok _,
  List.forall_mem_cons.mpr ⟨(mp_iadd dX12_isDue_39).ok _,
  List.forall_mem_cons.mpr ⟨(mp_iald dX12_isDue_40).ok _,
  List.forall_mem_cons.mpr ⟨(mp_aload_n 0 dX12_isDue_41 rfl).ok _,
  List.forall_mem_cons.mpr ⟨(mq_getf 12 1 dX12_isDue_42 rfl iu_X12 (by decide) tw_1214 rfl).ok _,
  List.forall_mem_cons.mpr ⟨(mp_sipush (175) dX12_isDue_45 (by decide)).ok _,
  List.forall_mem_cons.mpr ⟨(mp_iald dX12_isDue_48).ok _,
  List.forall_mem_cons.mpr ⟨(mp_icmp_le 56 dX12_isDue_49 (by decide)).ok _,
  fun _ h => absurd h List.not_mem_nil⟩⟩⟩⟩⟩⟩⟩⟩⟩⟩⟩⟩⟩⟩⟩⟩⟩⟩⟩⟩⟩⟩⟩⟩⟩⟩⟩⟩⟩⟩
set_option maxRecDepth 100000 in
theorem ok_X12_isDue_1 (l : Launch) (G : am_G) (hG : am_ok G) (hX : am_xs G) : ∀ q ∈ (cl_X12_isDue.drop 30).take 30, am_Ok l G cX12_isDue 2 yX12_isDue.cls wa_X12_isDue (am_ro 1) (some .boolean) q.2 q.1 :=
  List.forall_mem_cons.mpr ⟨(mp_iconst (1) dX12_isDue_52 rfl).ok _,
  List.forall_mem_cons.mpr ⟨(mp_goto 57 dX12_isDue_53 (by decide)).ok _,
  List.forall_mem_cons.mpr ⟨(mp_iconst (0) dX12_isDue_56 rfl).ok _,
  List.forall_mem_cons.mpr ⟨mo_zret dX12_isDue_57,
  fun _ h => absurd h List.not_mem_nil⟩⟩⟩⟩
set_option maxRecDepth 100000 in
theorem ok_X12_isDue (l : Launch) (G : am_G) (hG : am_ok G) (hX : am_xs G) : ∀ q ∈ cl_X12_isDue, am_Ok l G cX12_isDue 2 yX12_isDue.cls wa_X12_isDue (am_ro 1) (some .boolean) q.2 q.1 := by
  have e : cl_X12_isDue = ((cl_X12_isDue.drop 0).take 30) ++ (((cl_X12_isDue.drop 30).take 30)) := rfl
  rw [e]
  exact List.forall_mem_append.mpr ⟨ok_X12_isDue_0 l G hG hX, ok_X12_isDue_1 l G hG hX⟩
set_option maxRecDepth 100000 in
theorem sm_X12_isDue (l : Launch) (G : am_G) (hG : am_ok G) (hX : am_xs G) : am_mS sp_X12_isDue := fun av σ R R1 hR h => ⟨h.1, am_Wp.mr (fun pc => (am_lk_ok (ok_X12_isDue l G hG hX) pc).1) hR h.2⟩
set_option maxRecDepth 100000 in
theorem m_X12_isDue (l : Launch) (G : am_G) (hG : am_ok G) (hX : am_xs G) : am_Met l G yX12_isDue wa_X12_isDue (am_ro 1) sp_X12_isDue :=
  am_met hG (am_lk cl_X12_isDue) 2 (by decide +kernel) rfl (by decide) (am_lk_ok (ok_X12_isDue l G hG hX)) (v_X12_isDue (fun pc => (am_lk_ok (ok_X12_isDue l G hG hX) pc).1))
set_option maxRecDepth 100000 in
theorem hv_X12_isTask : yX12_isTask.cls = RX12 ∧ yX12_isTask.cls ≠ "java/lang/invoke/MethodHandle" ∧ yX12_isTask.cls ≠ "java/lang/invoke/VarHandle" ∧ (parseMethodDescriptor yX12_isTask.desc).map (fun d => d.parameters.length) = some 1 := by decide +kernel
set_option maxRecDepth 100000 in
theorem hd_X12_isTask : yX12_isTask.cls ≠ "java/lang/invoke/MethodHandle" ∧ yX12_isTask.cls ≠ "java/lang/invoke/VarHandle" ∧ (parseMethodDescriptor yX12_isTask.desc).map (fun d => d.parameters.length) = some 1 := hv_X12_isTask.2
abbrev wa_X12_isTask : List Cond := Cond.code yX12_isTask cX12_isTask 2 (some .boolean) :: am_tb
set_option maxRecDepth 100000 in
theorem ok_X12_isTask_0 (l : Launch) (G : am_G) (hG : am_ok G) (hX : am_xs G) : ∀ q ∈ (cl_X12_isTask.drop 0).take 30, am_Ok l G cX12_isTask 2 yX12_isTask.cls wa_X12_isTask (am_ro 1) (some .boolean) q.2 q.1 :=
  List.forall_mem_cons.mpr ⟨(mp_iload_n 1 dX12_isTask_0 rfl).ok _,
  List.forall_mem_cons.mpr ⟨(mp_iconst (0) dX12_isTask_1 rfl).ok _,
  List.forall_mem_cons.mpr ⟨(mp_aload_n 0 dX12_isTask_2 rfl).ok _,
  List.forall_mem_cons.mpr ⟨(mq_getf 12 1 dX12_isTask_3 rfl iu_X12 (by decide) tw_1214 rfl).ok _,
  List.forall_mem_cons.mpr ⟨(mp_sipush (170) dX12_isTask_6 (by decide)).ok _,
  List.forall_mem_cons.mpr ⟨(mp_iald dX12_isTask_9).ok _,
  List.forall_mem_cons.mpr ⟨(mp_iconst (1) dX12_isTask_10 rfl).ok _,
  List.forall_mem_cons.mpr ⟨(mp_isub dX12_isTask_11).ok _,
  List.forall_mem_cons.mpr ⟨(mq_cs 3 (m_X12_in l G hG hX) (sm_X12_in l G hG hX) dX12_isTask_12 tw_1257 tw_1255 tw_1256 tw_14 rfl rfl hd_X12_in (Nat.le_of_ble_eq_true rfl) (Nat.le_of_ble_eq_true rfl)).ok _,
  List.forall_mem_cons.mpr ⟨mo_zret dX12_isTask_15,
  fun _ h => absurd h List.not_mem_nil⟩⟩⟩⟩⟩⟩⟩⟩⟩⟩
set_option maxRecDepth 100000 in
theorem ok_X12_isTask (l : Launch) (G : am_G) (hG : am_ok G) (hX : am_xs G) : ∀ q ∈ cl_X12_isTask, am_Ok l G cX12_isTask 2 yX12_isTask.cls wa_X12_isTask (am_ro 1) (some .boolean) q.2 q.1 := by
  exact ok_X12_isTask_0 l G hG hX
set_option maxRecDepth 100000 in
theorem sm_X12_isTask (l : Launch) (G : am_G) (hG : am_ok G) (hX : am_xs G) : am_mS sp_X12_isTask := fun av σ R R1 hR h => ⟨h.1, am_Wp.mr (fun pc => (am_lk_ok (ok_X12_isTask l G hG hX) pc).1) hR h.2⟩
set_option maxRecDepth 100000 in
theorem m_X12_isTask (l : Launch) (G : am_G) (hG : am_ok G) (hX : am_xs G) : am_Met l G yX12_isTask wa_X12_isTask (am_ro 1) sp_X12_isTask :=
  am_met hG (am_lk cl_X12_isTask) 2 (by decide +kernel) rfl (by decide) (am_lk_ok (ok_X12_isTask l G hG hX)) (v_X12_isTask (fun pc => (am_lk_ok (ok_X12_isTask l G hG hX) pc).1))
set_option maxRecDepth 100000 in
theorem hv_X12_of : yX12_of.cls = RX12 ∧ yX12_of.cls ≠ "java/lang/invoke/MethodHandle" ∧ yX12_of.cls ≠ "java/lang/invoke/VarHandle" ∧ (parseMethodDescriptor yX12_of.desc).map (fun d => d.parameters.length) = some 2 := by decide +kernel
set_option maxRecDepth 100000 in
theorem hd_X12_of : yX12_of.cls ≠ "java/lang/invoke/MethodHandle" ∧ yX12_of.cls ≠ "java/lang/invoke/VarHandle" ∧ (parseMethodDescriptor yX12_of.desc).map (fun d => d.parameters.length) = some 2 := hv_X12_of.2
abbrev wa_X12_of : List Cond := Cond.code yX12_of cX12_of 3 (some .int) :: am_tb
set_option maxRecDepth 100000 in
theorem ok_X12_of_0 (l : Launch) (G : am_G) (hG : am_ok G) (hX : am_xs G) : ∀ q ∈ (cl_X12_of.drop 0).take 30, am_Ok l G cX12_of 3 yX12_of.cls wa_X12_of (am_ro 1) (some .int) q.2 q.1 :=
  List.forall_mem_cons.mpr ⟨(mp_aload_n 0 dX12_of_0 rfl).ok _,
  List.forall_mem_cons.mpr ⟨(mq_getf 12 1 dX12_of_1 rfl iu_X12 (by decide) tw_1214 rfl).ok _,
  List.forall_mem_cons.mpr ⟨(mp_iload_n 1 dX12_of_4 rfl).ok _,
  List.forall_mem_cons.mpr ⟨(mq_cs 1 (m_X12_task l G hG hX) (sm_X12_task l G hG hX) dX12_of_5 tw_1295 tw_1293 tw_1294 tw_14 rfl rfl hd_X12_task (Nat.le_of_ble_eq_true rfl) (Nat.le_of_ble_eq_true rfl)).ok _,
  List.forall_mem_cons.mpr ⟨(mp_iload_n 2 dX12_of_8 rfl).ok _,
  List.forall_mem_cons.mpr ⟨(mp_iadd dX12_of_9).ok _,
  List.forall_mem_cons.mpr ⟨(mp_iald dX12_of_10).ok _,
  List.forall_mem_cons.mpr ⟨mo_iret dX12_of_11,
  fun _ h => absurd h List.not_mem_nil⟩⟩⟩⟩⟩⟩⟩⟩
set_option maxRecDepth 100000 in
theorem ok_X12_of (l : Launch) (G : am_G) (hG : am_ok G) (hX : am_xs G) : ∀ q ∈ cl_X12_of, am_Ok l G cX12_of 3 yX12_of.cls wa_X12_of (am_ro 1) (some .int) q.2 q.1 := by
  exact ok_X12_of_0 l G hG hX
set_option maxRecDepth 100000 in
theorem sm_X12_of (l : Launch) (G : am_G) (hG : am_ok G) (hX : am_xs G) : am_mS sp_X12_of := fun av σ R R1 hR h => ⟨h.1, am_Wp.mr (fun pc => (am_lk_ok (ok_X12_of l G hG hX) pc).1) hR h.2⟩
set_option maxRecDepth 100000 in
theorem m_X12_of (l : Launch) (G : am_G) (hG : am_ok G) (hX : am_xs G) : am_Met l G yX12_of wa_X12_of (am_ro 1) sp_X12_of :=
  am_met hG (am_lk cl_X12_of) 3 (by decide +kernel) rfl (by decide) (am_lk_ok (ok_X12_of l G hG hX)) (v_X12_of (fun pc => (am_lk_ok (ok_X12_of l G hG hX) pc).1))
set_option maxRecDepth 100000 in
theorem hv_X12_program : yX12_program.cls = RX12 ∧ yX12_program.cls ≠ "java/lang/invoke/MethodHandle" ∧ yX12_program.cls ≠ "java/lang/invoke/VarHandle" ∧ (parseMethodDescriptor yX12_program.desc).map (fun d => d.parameters.length) = some 2 := by decide +kernel
set_option maxRecDepth 100000 in
theorem hd_X12_program : yX12_program.cls ≠ "java/lang/invoke/MethodHandle" ∧ yX12_program.cls ≠ "java/lang/invoke/VarHandle" ∧ (parseMethodDescriptor yX12_program.desc).map (fun d => d.parameters.length) = some 2 := hv_X12_program.2
abbrev wa_X12_program : List Cond := Cond.code yX12_program cX12_program 4 (some .int) :: am_tb
set_option maxRecDepth 100000 in
theorem ok_X12_program_0 (l : Launch) (G : am_G) (hG : am_ok G) (hX : am_xs G) : ∀ q ∈ (cl_X12_program.drop 0).take 30, am_Ok l G cX12_program 4 yX12_program.cls wa_X12_program (am_ro 1) (some .int) q.2 q.1 :=
  List.forall_mem_cons.mpr ⟨(mp_aload_n 0 dX12_program_0 rfl).ok _,
  List.forall_mem_cons.mpr ⟨(mp_iconst (0) dX12_program_1 rfl).ok _,
  List.forall_mem_cons.mpr ⟨(mq_putf 12 0 dX12_program_2 rfl iu_X12 tyX12 tyX12_ok nmX12 (by decide) tw_1213 rfl rfl (by decide +kernel)).ok _,
  List.forall_mem_cons.mpr ⟨(mp_iload_n 1 dX12_program_5 rfl).ok _,
  List.forall_mem_cons.mpr ⟨(mp_iconst (0) dX12_program_6 rfl).ok _,
  List.forall_mem_cons.mpr ⟨(mp_iconst (5) dX12_program_7 rfl).ok _,
  List.forall_mem_cons.mpr ⟨(mq_cs 3 (m_X12_in l G hG hX) (sm_X12_in l G hG hX) dX12_program_8 tw_1257 tw_1255 tw_1256 tw_14 rfl rfl hd_X12_in (Nat.le_of_ble_eq_true rfl) (Nat.le_of_ble_eq_true rfl)).ok _,
  List.forall_mem_cons.mpr ⟨(mp_if_ne 20 dX12_program_11 (by decide)).ok _,
  List.forall_mem_cons.mpr ⟨(mp_aload_n 0 dX12_program_14 rfl).ok _,
  List.forall_mem_cons.mpr ⟨(mp_iconst (1) dX12_program_15 rfl).ok _,
  List.forall_mem_cons.mpr ⟨(mq_cv 12 1 (m_X12_raises l G hG hX) (sm_X12_raises l G hG hX) dX12_program_16 rfl tw_1261 tw_1258 tw_1260 ts_34 tw_14 rfl rfl hv_X12_raises (Nat.le_of_ble_eq_true rfl) (Nat.le_of_ble_eq_true rfl)).ok _,
  List.forall_mem_cons.mpr ⟨mo_iret dX12_program_19,
  List.forall_mem_cons.mpr ⟨(mp_iconst (0) dX12_program_20 rfl).ok _,
  List.forall_mem_cons.mpr ⟨(mp_bipush (25) dX12_program_21 (by decide)).ok _,
  List.forall_mem_cons.mpr ⟨(mp_iload_n 1 dX12_program_23 rfl).ok _,
  List.forall_mem_cons.mpr ⟨(mp_imul dX12_program_24).ok _,
  List.forall_mem_cons.mpr ⟨(mp_iadd dX12_program_25).ok _,
  List.forall_mem_cons.mpr ⟨(mp_istore_n 3 dX12_program_26 rfl (by decide)).ok _,
  List.forall_mem_cons.mpr ⟨(mp_iload_n 2 dX12_program_27 rfl).ok _,
  List.forall_mem_cons.mpr ⟨(mp_iconst (-1) dX12_program_28 rfl).ok _,
  List.forall_mem_cons.mpr ⟨(mp_aload_n 0 dX12_program_29 rfl).ok _,
  List.forall_mem_cons.mpr ⟨(mq_getf 12 1 dX12_program_30 rfl iu_X12 (by decide) tw_1214 rfl).ok _,
  List.forall_mem_cons.mpr ⟨(mp_iload_n 3 dX12_program_33 rfl).ok _,
  List.forall_mem_cons.mpr ⟨(mp_iald dX12_program_34).ok _,
  List.forall_mem_cons.mpr ⟨(mp_iconst (1) dX12_program_35 rfl).ok _,
  List.forall_mem_cons.mpr ⟨(mp_isub dX12_program_36).ok _,
  List.forall_mem_cons.mpr ⟨(mq_cs 3 (m_X12_in l G hG hX) (sm_X12_in l G hG hX) dX12_program_37 tw_1257 tw_1255 tw_1256 tw_14 rfl rfl hd_X12_in (Nat.le_of_ble_eq_true rfl) (Nat.le_of_ble_eq_true rfl)).ok _,
  List.forall_mem_cons.mpr ⟨(mp_if_eq 56 dX12_program_40 (by decide)).ok _,
  List.forall_mem_cons.mpr ⟨(mp_aload_n 0 dX12_program_43 rfl).ok _,
  List.forall_mem_cons.mpr ⟨(mq_getf 12 1 dX12_program_44 rfl iu_X12 (by decide) tw_1214 rfl).ok _,
  fun _ h => absurd h List.not_mem_nil⟩⟩⟩⟩⟩⟩⟩⟩⟩⟩⟩⟩⟩⟩⟩⟩⟩⟩⟩⟩⟩⟩⟩⟩⟩⟩⟩⟩⟩⟩
set_option maxRecDepth 100000 in
theorem ok_X12_program_1 (l : Launch) (G : am_G) (hG : am_ok G) (hX : am_xs G) : ∀ q ∈ (cl_X12_program.drop 30).take 30, am_Ok l G cX12_program 4 yX12_program.cls wa_X12_program (am_ro 1) (some .int) q.2 q.1 :=
  List.forall_mem_cons.mpr ⟨(mp_iload_n 3 dX12_program_47 rfl).ok _,
  List.forall_mem_cons.mpr ⟨(mp_iload_n 2 dX12_program_48 rfl).ok _,
  List.forall_mem_cons.mpr ⟨(mp_iadd dX12_program_49).ok _,
  List.forall_mem_cons.mpr ⟨(mp_iconst (1) dX12_program_50 rfl).ok _,
  List.forall_mem_cons.mpr ⟨(mp_iadd dX12_program_51).ok _,
  List.forall_mem_cons.mpr ⟨(mp_iald dX12_program_52).ok _,
  List.forall_mem_cons.mpr ⟨(mp_goto 61 dX12_program_53 (by decide)).ok _,
  List.forall_mem_cons.mpr ⟨(mp_aload_n 0 dX12_program_56 rfl).ok _,
  List.forall_mem_cons.mpr ⟨(mp_iconst (1) dX12_program_57 rfl).ok _,
  List.forall_mem_cons.mpr ⟨(mq_cv 12 1 (m_X12_raises l G hG hX) (sm_X12_raises l G hG hX) dX12_program_58 rfl tw_1261 tw_1258 tw_1260 ts_34 tw_14 rfl rfl hv_X12_raises (Nat.le_of_ble_eq_true rfl) (Nat.le_of_ble_eq_true rfl)).ok _,
  List.forall_mem_cons.mpr ⟨mo_iret dX12_program_61,
  fun _ h => absurd h List.not_mem_nil⟩⟩⟩⟩⟩⟩⟩⟩⟩⟩⟩
set_option maxRecDepth 100000 in
theorem ok_X12_program (l : Launch) (G : am_G) (hG : am_ok G) (hX : am_xs G) : ∀ q ∈ cl_X12_program, am_Ok l G cX12_program 4 yX12_program.cls wa_X12_program (am_ro 1) (some .int) q.2 q.1 := by
  have e : cl_X12_program = ((cl_X12_program.drop 0).take 30) ++ (((cl_X12_program.drop 30).take 30)) := rfl
  rw [e]
  exact List.forall_mem_append.mpr ⟨ok_X12_program_0 l G hG hX, ok_X12_program_1 l G hG hX⟩
set_option maxRecDepth 100000 in
theorem sm_X12_program (l : Launch) (G : am_G) (hG : am_ok G) (hX : am_xs G) : am_mS sp_X12_program := fun av σ R R1 hR h => ⟨h.1, am_Wp.mr (fun pc => (am_lk_ok (ok_X12_program l G hG hX) pc).1) hR h.2⟩
set_option maxRecDepth 100000 in
theorem m_X12_program (l : Launch) (G : am_G) (hG : am_ok G) (hX : am_xs G) : am_Met l G yX12_program wa_X12_program (am_ro 1) sp_X12_program :=
  am_met hG (am_lk cl_X12_program) 3 (by decide +kernel) rfl (by decide) (am_lk_ok (ok_X12_program l G hG hX)) (v_X12_program (fun pc => (am_lk_ok (ok_X12_program l G hG hX) pc).1))
set_option maxRecDepth 100000 in
theorem hv_X12_ready : yX12_ready.cls = RX12 ∧ yX12_ready.cls ≠ "java/lang/invoke/MethodHandle" ∧ yX12_ready.cls ≠ "java/lang/invoke/VarHandle" ∧ (parseMethodDescriptor yX12_ready.desc).map (fun d => d.parameters.length) = some 1 := by decide +kernel
set_option maxRecDepth 100000 in
theorem hd_X12_ready : yX12_ready.cls ≠ "java/lang/invoke/MethodHandle" ∧ yX12_ready.cls ≠ "java/lang/invoke/VarHandle" ∧ (parseMethodDescriptor yX12_ready.desc).map (fun d => d.parameters.length) = some 1 := hv_X12_ready.2
abbrev wa_X12_ready : List Cond := Cond.code yX12_ready cX12_ready 2 (some .int) :: am_tb
set_option maxRecDepth 100000 in
theorem ok_X12_ready_0 (l : Launch) (G : am_G) (hG : am_ok G) (hX : am_xs G) : ∀ q ∈ (cl_X12_ready.drop 0).take 30, am_Ok l G cX12_ready 2 yX12_ready.cls wa_X12_ready (am_ro 1) (some .int) q.2 q.1 :=
  List.forall_mem_cons.mpr ⟨(mp_aload_n 0 dX12_ready_0 rfl).ok _,
  List.forall_mem_cons.mpr ⟨(mp_iconst (0) dX12_ready_1 rfl).ok _,
  List.forall_mem_cons.mpr ⟨(mq_putf 12 0 dX12_ready_2 rfl iu_X12 tyX12 tyX12_ok nmX12 (by decide) tw_1213 rfl rfl (by decide +kernel)).ok _,
  List.forall_mem_cons.mpr ⟨(mp_iload_n 1 dX12_ready_5 rfl).ok _,
  List.forall_mem_cons.mpr ⟨(mp_iconst (0) dX12_ready_6 rfl).ok _,
  List.forall_mem_cons.mpr ⟨(mp_aload_n 0 dX12_ready_7 rfl).ok _,
  List.forall_mem_cons.mpr ⟨(mq_getf 12 1 dX12_ready_8 rfl iu_X12 (by decide) tw_1214 rfl).ok _,
  List.forall_mem_cons.mpr ⟨(mp_sipush (173) dX12_ready_11 (by decide)).ok _,
  List.forall_mem_cons.mpr ⟨(mp_iald dX12_ready_14).ok _,
  List.forall_mem_cons.mpr ⟨(mp_iconst (1) dX12_ready_15 rfl).ok _,
  List.forall_mem_cons.mpr ⟨(mp_isub dX12_ready_16).ok _,
  List.forall_mem_cons.mpr ⟨(mq_cs 3 (m_X12_in l G hG hX) (sm_X12_in l G hG hX) dX12_ready_17 tw_1257 tw_1255 tw_1256 tw_14 rfl rfl hd_X12_in (Nat.le_of_ble_eq_true rfl) (Nat.le_of_ble_eq_true rfl)).ok _,
  List.forall_mem_cons.mpr ⟨(mp_if_eq 36 dX12_ready_20 (by decide)).ok _,
  List.forall_mem_cons.mpr ⟨(mp_aload_n 0 dX12_ready_23 rfl).ok _,
  List.forall_mem_cons.mpr ⟨(mq_getf 12 1 dX12_ready_24 rfl iu_X12 (by decide) tw_1214 rfl).ok _,
  List.forall_mem_cons.mpr ⟨(mp_sipush (183) dX12_ready_27 (by decide)).ok _,
  List.forall_mem_cons.mpr ⟨(mp_iload_n 1 dX12_ready_30 rfl).ok _,
  List.forall_mem_cons.mpr ⟨(mp_iadd dX12_ready_31).ok _,
  List.forall_mem_cons.mpr ⟨(mp_iald dX12_ready_32).ok _,
  List.forall_mem_cons.mpr ⟨(mp_goto 41 dX12_ready_33 (by decide)).ok _,
  List.forall_mem_cons.mpr ⟨(mp_aload_n 0 dX12_ready_36 rfl).ok _,
  List.forall_mem_cons.mpr ⟨(mp_iconst (1) dX12_ready_37 rfl).ok _,
  List.forall_mem_cons.mpr ⟨(mq_cv 12 1 (m_X12_raises l G hG hX) (sm_X12_raises l G hG hX) dX12_ready_38 rfl tw_1261 tw_1258 tw_1260 ts_34 tw_14 rfl rfl hv_X12_raises (Nat.le_of_ble_eq_true rfl) (Nat.le_of_ble_eq_true rfl)).ok _,
  List.forall_mem_cons.mpr ⟨mo_iret dX12_ready_41,
  fun _ h => absurd h List.not_mem_nil⟩⟩⟩⟩⟩⟩⟩⟩⟩⟩⟩⟩⟩⟩⟩⟩⟩⟩⟩⟩⟩⟩⟩⟩
set_option maxRecDepth 100000 in
theorem ok_X12_ready (l : Launch) (G : am_G) (hG : am_ok G) (hX : am_xs G) : ∀ q ∈ cl_X12_ready, am_Ok l G cX12_ready 2 yX12_ready.cls wa_X12_ready (am_ro 1) (some .int) q.2 q.1 := by
  exact ok_X12_ready_0 l G hG hX
set_option maxRecDepth 100000 in
theorem sm_X12_ready (l : Launch) (G : am_G) (hG : am_ok G) (hX : am_xs G) : am_mS sp_X12_ready := fun av σ R R1 hR h => ⟨h.1, am_Wp.mr (fun pc => (am_lk_ok (ok_X12_ready l G hG hX) pc).1) hR h.2⟩
set_option maxRecDepth 100000 in
theorem m_X12_ready (l : Launch) (G : am_G) (hG : am_ok G) (hX : am_xs G) : am_Met l G yX12_ready wa_X12_ready (am_ro 1) sp_X12_ready :=
  am_met hG (am_lk cl_X12_ready) 2 (by decide +kernel) rfl (by decide) (am_lk_ok (ok_X12_ready l G hG hX)) (v_X12_ready (fun pc => (am_lk_ok (ok_X12_ready l G hG hX) pc).1))
set_option maxRecDepth 100000 in
theorem hv_X12_restore : yX12_restore.cls = RX12 ∧ yX12_restore.cls ≠ "java/lang/invoke/MethodHandle" ∧ yX12_restore.cls ≠ "java/lang/invoke/VarHandle" ∧ (parseMethodDescriptor yX12_restore.desc).map (fun d => d.parameters.length) = some 0 := by decide +kernel
set_option maxRecDepth 100000 in
theorem hd_X12_restore : yX12_restore.cls ≠ "java/lang/invoke/MethodHandle" ∧ yX12_restore.cls ≠ "java/lang/invoke/VarHandle" ∧ (parseMethodDescriptor yX12_restore.desc).map (fun d => d.parameters.length) = some 0 := hv_X12_restore.2
abbrev wa_X12_restore : List Cond := Cond.code yX12_restore cX12_restore 2 (some .int) :: am_tb
set_option maxRecDepth 100000 in
theorem ok_X12_restore_0 (l : Launch) (G : am_G) (hG : am_ok G) (hX : am_xs G) : ∀ q ∈ (cl_X12_restore.drop 0).take 30, am_Ok l G cX12_restore 2 yX12_restore.cls wa_X12_restore (am_ro 1) (some .int) q.2 q.1 :=
  List.forall_mem_cons.mpr ⟨(mp_aload_n 0 dX12_restore_0 rfl).ok _,
  List.forall_mem_cons.mpr ⟨(mp_iconst (0) dX12_restore_1 rfl).ok _,
  List.forall_mem_cons.mpr ⟨(mq_putf 12 0 dX12_restore_2 rfl iu_X12 tyX12 tyX12_ok nmX12 (by decide) tw_1213 rfl rfl (by decide +kernel)).ok _,
  List.forall_mem_cons.mpr ⟨(mp_aload_n 0 dX12_restore_5 rfl).ok _,
  List.forall_mem_cons.mpr ⟨(mq_getf 12 3 dX12_restore_6 rfl iu_X12 (by decide) tw_1216 rfl).ok _,
  List.forall_mem_cons.mpr ⟨(mp_if_ne 18 dX12_restore_9 (by decide)).ok _,
  List.forall_mem_cons.mpr ⟨(mp_aload_n 0 dX12_restore_12 rfl).ok _,
  List.forall_mem_cons.mpr ⟨(mp_iconst (1) dX12_restore_13 rfl).ok _,
  List.forall_mem_cons.mpr ⟨(mq_cv 12 1 (m_X12_raises l G hG hX) (sm_X12_raises l G hG hX) dX12_restore_14 rfl tw_1261 tw_1258 tw_1260 ts_34 tw_14 rfl rfl hv_X12_raises (Nat.le_of_ble_eq_true rfl) (Nat.le_of_ble_eq_true rfl)).ok _,
  List.forall_mem_cons.mpr ⟨mo_iret dX12_restore_17,
  List.forall_mem_cons.mpr ⟨(mp_iconst (0) dX12_restore_18 rfl).ok _,
  List.forall_mem_cons.mpr ⟨(mp_istore_n 1 dX12_restore_19 rfl (by decide)).ok _,
  List.forall_mem_cons.mpr ⟨(mp_iload_n 1 dX12_restore_20 rfl).ok _,
  List.forall_mem_cons.mpr ⟨(mp_sipush (9231) dX12_restore_21 (by decide)).ok _,
  List.forall_mem_cons.mpr ⟨(mp_icmp_ge 45 dX12_restore_24 (by decide)).ok _,
  List.forall_mem_cons.mpr ⟨(mp_aload_n 0 dX12_restore_27 rfl).ok _,
  List.forall_mem_cons.mpr ⟨(mq_getf 12 1 dX12_restore_28 rfl iu_X12 (by decide) tw_1214 rfl).ok _,
  List.forall_mem_cons.mpr ⟨(mp_iload_n 1 dX12_restore_31 rfl).ok _,
  List.forall_mem_cons.mpr ⟨(mp_aload_n 0 dX12_restore_32 rfl).ok _,
  List.forall_mem_cons.mpr ⟨(mq_getf 12 2 dX12_restore_33 rfl iu_X12 (by decide) tw_1215 rfl).ok _,
  List.forall_mem_cons.mpr ⟨(mp_iload_n 1 dX12_restore_36 rfl).ok _,
  List.forall_mem_cons.mpr ⟨(mp_iald dX12_restore_37).ok _,
  List.forall_mem_cons.mpr ⟨(mp_iast dX12_restore_38).ok _,
  List.forall_mem_cons.mpr ⟨(mp_iinc 1 (1) dX12_restore_39 rfl (by decide)).ok _,
  List.forall_mem_cons.mpr ⟨(mp_goto 20 dX12_restore_42 (by decide)).ok _,
  List.forall_mem_cons.mpr ⟨(mp_aload_n 0 dX12_restore_45 rfl).ok _,
  List.forall_mem_cons.mpr ⟨(mq_getf 12 1 dX12_restore_46 rfl iu_X12 (by decide) tw_1214 rfl).ok _,
  List.forall_mem_cons.mpr ⟨(mp_sipush (170) dX12_restore_49 (by decide)).ok _,
  List.forall_mem_cons.mpr ⟨(mp_iald dX12_restore_52).ok _,
  List.forall_mem_cons.mpr ⟨mo_iret dX12_restore_53,
  fun _ h => absurd h List.not_mem_nil⟩⟩⟩⟩⟩⟩⟩⟩⟩⟩⟩⟩⟩⟩⟩⟩⟩⟩⟩⟩⟩⟩⟩⟩⟩⟩⟩⟩⟩⟩
set_option maxRecDepth 100000 in
theorem ok_X12_restore (l : Launch) (G : am_G) (hG : am_ok G) (hX : am_xs G) : ∀ q ∈ cl_X12_restore, am_Ok l G cX12_restore 2 yX12_restore.cls wa_X12_restore (am_ro 1) (some .int) q.2 q.1 := by
  exact ok_X12_restore_0 l G hG hX
set_option maxRecDepth 100000 in
theorem sm_X12_restore (l : Launch) (G : am_G) (hG : am_ok G) (hX : am_xs G) : am_mS sp_X12_restore := fun av σ R R1 hR h => ⟨h.1, am_Wp.mr (fun pc => (am_lk_ok (ok_X12_restore l G hG hX) pc).1) hR h.2⟩
set_option maxRecDepth 100000 in
theorem m_X12_restore (l : Launch) (G : am_G) (hG : am_ok G) (hX : am_xs G) : am_Met l G yX12_restore wa_X12_restore (am_ro 1) sp_X12_restore :=
  am_met hG (am_lk cl_X12_restore) 1 (by decide +kernel) rfl (by decide) (am_lk_ok (ok_X12_restore l G hG hX)) (v_X12_restore (fun pc => (am_lk_ok (ok_X12_restore l G hG hX) pc).1))
set_option maxRecDepth 100000 in
theorem hv_X12_sets : yX12_sets.cls = RX12 ∧ yX12_sets.cls ≠ "java/lang/invoke/MethodHandle" ∧ yX12_sets.cls ≠ "java/lang/invoke/VarHandle" ∧ (parseMethodDescriptor yX12_sets.desc).map (fun d => d.parameters.length) = some 3 := by decide +kernel
set_option maxRecDepth 100000 in
theorem hd_X12_sets : yX12_sets.cls ≠ "java/lang/invoke/MethodHandle" ∧ yX12_sets.cls ≠ "java/lang/invoke/VarHandle" ∧ (parseMethodDescriptor yX12_sets.desc).map (fun d => d.parameters.length) = some 3 := hv_X12_sets.2
abbrev wa_X12_sets : List Cond := Cond.code yX12_sets cX12_sets 4 none :: am_tb
set_option maxRecDepth 100000 in
theorem ok_X12_sets_0 (l : Launch) (G : am_G) (hG : am_ok G) (hX : am_xs G) : ∀ q ∈ (cl_X12_sets.drop 0).take 30, am_Ok l G cX12_sets 4 yX12_sets.cls wa_X12_sets (am_ro 1) none q.2 q.1 :=
  List.forall_mem_cons.mpr ⟨(mp_aload_n 0 dX12_sets_0 rfl).ok _,
  List.forall_mem_cons.mpr ⟨(mq_getf 12 1 dX12_sets_1 rfl iu_X12 (by decide) tw_1214 rfl).ok _,
  List.forall_mem_cons.mpr ⟨(mp_iload_n 1 dX12_sets_4 rfl).ok _,
  List.forall_mem_cons.mpr ⟨(mq_cs 1 (m_X12_task l G hG hX) (sm_X12_task l G hG hX) dX12_sets_5 tw_1295 tw_1293 tw_1294 tw_14 rfl rfl hd_X12_task (Nat.le_of_ble_eq_true rfl) (Nat.le_of_ble_eq_true rfl)).ok _,
  List.forall_mem_cons.mpr ⟨(mp_iload_n 2 dX12_sets_8 rfl).ok _,
  List.forall_mem_cons.mpr ⟨(mp_iadd dX12_sets_9).ok _,
  List.forall_mem_cons.mpr ⟨(mp_iload_n 3 dX12_sets_10 rfl).ok _,
  List.forall_mem_cons.mpr ⟨(mp_iast dX12_sets_11).ok _,
  List.forall_mem_cons.mpr ⟨mo_vret dX12_sets_12,
  fun _ h => absurd h List.not_mem_nil⟩⟩⟩⟩⟩⟩⟩⟩⟩
set_option maxRecDepth 100000 in
theorem ok_X12_sets (l : Launch) (G : am_G) (hG : am_ok G) (hX : am_xs G) : ∀ q ∈ cl_X12_sets, am_Ok l G cX12_sets 4 yX12_sets.cls wa_X12_sets (am_ro 1) none q.2 q.1 := by
  exact ok_X12_sets_0 l G hG hX
set_option maxRecDepth 100000 in
theorem sm_X12_sets (l : Launch) (G : am_G) (hG : am_ok G) (hX : am_xs G) : am_mS sp_X12_sets := fun av σ R R1 hR h => ⟨h.1, am_Wp.mr (fun pc => (am_lk_ok (ok_X12_sets l G hG hX) pc).1) hR h.2⟩
set_option maxRecDepth 100000 in
theorem m_X12_sets (l : Launch) (G : am_G) (hG : am_ok G) (hX : am_xs G) : am_Met l G yX12_sets wa_X12_sets (am_ro 1) sp_X12_sets :=
  am_met hG (am_lk cl_X12_sets) 4 (by decide +kernel) rfl (by decide) (am_lk_ok (ok_X12_sets l G hG hX)) (v_X12_sets (fun pc => (am_lk_ok (ok_X12_sets l G hG hX) pc).1))
set_option maxRecDepth 100000 in
theorem hv_X12_cleans : yX12_cleans.cls = RX12 ∧ yX12_cleans.cls ≠ "java/lang/invoke/MethodHandle" ∧ yX12_cleans.cls ≠ "java/lang/invoke/VarHandle" ∧ (parseMethodDescriptor yX12_cleans.desc).map (fun d => d.parameters.length) = some 2 := by decide +kernel
set_option maxRecDepth 100000 in
theorem hd_X12_cleans : yX12_cleans.cls ≠ "java/lang/invoke/MethodHandle" ∧ yX12_cleans.cls ≠ "java/lang/invoke/VarHandle" ∧ (parseMethodDescriptor yX12_cleans.desc).map (fun d => d.parameters.length) = some 2 := hv_X12_cleans.2
abbrev wa_X12_cleans : List Cond := Cond.code yX12_cleans cX12_cleans 3 none :: am_tb
set_option maxRecDepth 100000 in
theorem ok_X12_cleans_0 (l : Launch) (G : am_G) (hG : am_ok G) (hX : am_xs G) : ∀ q ∈ (cl_X12_cleans.drop 0).take 30, am_Ok l G cX12_cleans 3 yX12_cleans.cls wa_X12_cleans (am_ro 2) none q.2 q.1 :=
  List.forall_mem_cons.mpr ⟨(mp_aload_n 0 dX12_cleans_0 rfl).ok _,
  List.forall_mem_cons.mpr ⟨(mq_getf 12 1 dX12_cleans_1 rfl iu_X12 (by decide) tw_1214 rfl).ok _,
  List.forall_mem_cons.mpr ⟨(mp_sipush (178) dX12_cleans_4 (by decide)).ok _,
  List.forall_mem_cons.mpr ⟨(mp_dup2 dX12_cleans_7).ok _,
  List.forall_mem_cons.mpr ⟨(mp_iald dX12_cleans_8).ok _,
  List.forall_mem_cons.mpr ⟨(mp_iconst (1) dX12_cleans_9 rfl).ok _,
  List.forall_mem_cons.mpr ⟨(mp_iadd dX12_cleans_10).ok _,
  List.forall_mem_cons.mpr ⟨(mp_iast dX12_cleans_11).ok _,
  List.forall_mem_cons.mpr ⟨(mp_aload_n 0 dX12_cleans_12 rfl).ok _,
  List.forall_mem_cons.mpr ⟨(mq_getf 12 1 dX12_cleans_13 rfl iu_X12 (by decide) tw_1214 rfl).ok _,
  List.forall_mem_cons.mpr ⟨(mp_iload_n 2 dX12_cleans_16 rfl).ok _,
  List.forall_mem_cons.mpr ⟨(mq_cs 1 (m_X12_scope l G hG hX) (sm_X12_scope l G hG hX) dX12_cleans_17 tw_1466 tw_1464 tw_1465 tw_14 rfl rfl hd_X12_scope (Nat.le_of_ble_eq_true rfl) (Nat.le_of_ble_eq_true rfl)).ok _,
  List.forall_mem_cons.mpr ⟨(mp_iconst (5) dX12_cleans_20 rfl).ok _,
  List.forall_mem_cons.mpr ⟨(mp_iadd dX12_cleans_21).ok _,
  List.forall_mem_cons.mpr ⟨(mp_iconst (2) dX12_cleans_22 rfl).ok _,
  List.forall_mem_cons.mpr ⟨(mp_iast dX12_cleans_23).ok _,
  List.forall_mem_cons.mpr ⟨(mp_aload_n 0 dX12_cleans_24 rfl).ok _,
  List.forall_mem_cons.mpr ⟨(mp_iload_n 1 dX12_cleans_25 rfl).ok _,
  List.forall_mem_cons.mpr ⟨(mp_bipush (9) dX12_cleans_26 (by decide)).ok _,
  List.forall_mem_cons.mpr ⟨(mp_iconst (1) dX12_cleans_28 rfl).ok _,
  List.forall_mem_cons.mpr ⟨(mq_cv 12 3 (m_X12_sets l G hG hX) (sm_X12_sets l G hG hX) dX12_cleans_29 rfl tw_1419 tw_1416 tw_1418 ts_44 tw_14 rfl rfl hv_X12_sets (Nat.le_of_ble_eq_true rfl) (Nat.le_of_ble_eq_true rfl)).ok _,
  List.forall_mem_cons.mpr ⟨(mp_aload_n 0 dX12_cleans_32 rfl).ok _,
  List.forall_mem_cons.mpr ⟨(mp_iload_n 1 dX12_cleans_33 rfl).ok _,
  List.forall_mem_cons.mpr ⟨(mp_bipush (10) dX12_cleans_34 (by decide)).ok _,
  List.forall_mem_cons.mpr ⟨(mp_iconst (0) dX12_cleans_36 rfl).ok _,
  List.forall_mem_cons.mpr ⟨(mq_cv 12 3 (m_X12_sets l G hG hX) (sm_X12_sets l G hG hX) dX12_cleans_37 rfl tw_1419 tw_1416 tw_1418 ts_44 tw_14 rfl rfl hv_X12_sets (Nat.le_of_ble_eq_true rfl) (Nat.le_of_ble_eq_true rfl)).ok _,
  List.forall_mem_cons.mpr ⟨mo_vret dX12_cleans_40,
  fun _ h => absurd h List.not_mem_nil⟩⟩⟩⟩⟩⟩⟩⟩⟩⟩⟩⟩⟩⟩⟩⟩⟩⟩⟩⟩⟩⟩⟩⟩⟩⟩⟩
set_option maxRecDepth 100000 in
theorem ok_X12_cleans (l : Launch) (G : am_G) (hG : am_ok G) (hX : am_xs G) : ∀ q ∈ cl_X12_cleans, am_Ok l G cX12_cleans 3 yX12_cleans.cls wa_X12_cleans (am_ro 2) none q.2 q.1 := by
  exact ok_X12_cleans_0 l G hG hX
set_option maxRecDepth 100000 in
theorem sm_X12_cleans (l : Launch) (G : am_G) (hG : am_ok G) (hX : am_xs G) : am_mS sp_X12_cleans := fun av σ R R1 hR h => ⟨h.1, am_Wp.mr (fun pc => (am_lk_ok (ok_X12_cleans l G hG hX) pc).1) hR h.2⟩
set_option maxRecDepth 100000 in
theorem m_X12_cleans (l : Launch) (G : am_G) (hG : am_ok G) (hX : am_xs G) : am_Met l G yX12_cleans wa_X12_cleans (am_ro 2) sp_X12_cleans :=
  am_met hG (am_lk cl_X12_cleans) 3 (by decide +kernel) rfl (by decide) (am_lk_ok (ok_X12_cleans l G hG hX)) (v_X12_cleans (fun pc => (am_lk_ok (ok_X12_cleans l G hG hX) pc).1))
set_option maxRecDepth 100000 in
theorem hv_X12_content : yX12_content.cls = RX12 ∧ yX12_content.cls ≠ "java/lang/invoke/MethodHandle" ∧ yX12_content.cls ≠ "java/lang/invoke/VarHandle" ∧ (parseMethodDescriptor yX12_content.desc).map (fun d => d.parameters.length) = some 2 := by decide +kernel
set_option maxRecDepth 100000 in
theorem hd_X12_content : yX12_content.cls ≠ "java/lang/invoke/MethodHandle" ∧ yX12_content.cls ≠ "java/lang/invoke/VarHandle" ∧ (parseMethodDescriptor yX12_content.desc).map (fun d => d.parameters.length) = some 2 := hv_X12_content.2
abbrev wa_X12_content : List Cond := Cond.code yX12_content cX12_content 3 (some .int) :: am_tb
set_option maxRecDepth 100000 in
theorem ok_X12_content_0 (l : Launch) (G : am_G) (hG : am_ok G) (hX : am_xs G) : ∀ q ∈ (cl_X12_content.drop 0).take 30, am_Ok l G cX12_content 3 yX12_content.cls wa_X12_content (am_ro 2) (some .int) q.2 q.1 :=
  List.forall_mem_cons.mpr ⟨(mp_aload_n 0 dX12_content_0 rfl).ok _,
  List.forall_mem_cons.mpr ⟨(mp_iconst (0) dX12_content_1 rfl).ok _,
  List.forall_mem_cons.mpr ⟨(mq_putf 12 0 dX12_content_2 rfl iu_X12 tyX12 tyX12_ok nmX12 (by decide) tw_1213 rfl rfl (by decide +kernel)).ok _,
  List.forall_mem_cons.mpr ⟨(mp_iload_n 1 dX12_content_5 rfl).ok _,
  List.forall_mem_cons.mpr ⟨(mq_cs 1 (m_X12_isChannel l G hG hX) (sm_X12_isChannel l G hG hX) dX12_content_6 tw_1613 tw_1611 tw_1612 tw_14 rfl rfl hd_X12_isChannel (Nat.le_of_ble_eq_true rfl) (Nat.le_of_ble_eq_true rfl)).ok _,
  List.forall_mem_cons.mpr ⟨(mp_if_ne 18 dX12_content_9 (by decide)).ok _,
  List.forall_mem_cons.mpr ⟨(mp_aload_n 0 dX12_content_12 rfl).ok _,
  List.forall_mem_cons.mpr ⟨(mp_iconst (1) dX12_content_13 rfl).ok _,
  List.forall_mem_cons.mpr ⟨(mq_cv 12 1 (m_X12_raises l G hG hX) (sm_X12_raises l G hG hX) dX12_content_14 rfl tw_1261 tw_1258 tw_1260 ts_34 tw_14 rfl rfl hv_X12_raises (Nat.le_of_ble_eq_true rfl) (Nat.le_of_ble_eq_true rfl)).ok _,
  List.forall_mem_cons.mpr ⟨mo_iret dX12_content_17,
  List.forall_mem_cons.mpr ⟨(mp_iload_n 2 dX12_content_18 rfl).ok _,
  List.forall_mem_cons.mpr ⟨(mp_iconst (0) dX12_content_19 rfl).ok _,
  List.forall_mem_cons.mpr ⟨(mp_aload_n 0 dX12_content_20 rfl).ok _,
  List.forall_mem_cons.mpr ⟨(mq_getf 12 1 dX12_content_21 rfl iu_X12 (by decide) tw_1214 rfl).ok _,
  List.forall_mem_cons.mpr ⟨(mp_iload_n 1 dX12_content_24 rfl).ok _,
  List.forall_mem_cons.mpr ⟨(mq_cs 1 (m_X12_channel l G hG hX) (sm_X12_channel l G hG hX) dX12_content_25 tw_1280 tw_1278 tw_1279 tw_14 rfl rfl hd_X12_channel (Nat.le_of_ble_eq_true rfl) (Nat.le_of_ble_eq_true rfl)).ok _,
  List.forall_mem_cons.mpr ⟨(mp_iconst (1) dX12_content_28 rfl).ok _,
  List.forall_mem_cons.mpr ⟨(mp_iadd dX12_content_29).ok _,
  List.forall_mem_cons.mpr ⟨(mp_iald dX12_content_30).ok _,
  List.forall_mem_cons.mpr ⟨(mp_iconst (1) dX12_content_31 rfl).ok _,
  List.forall_mem_cons.mpr ⟨(mp_isub dX12_content_32).ok _,
  List.forall_mem_cons.mpr ⟨(mq_cs 3 (m_X12_in l G hG hX) (sm_X12_in l G hG hX) dX12_content_33 tw_1257 tw_1255 tw_1256 tw_14 rfl rfl hd_X12_in (Nat.le_of_ble_eq_true rfl) (Nat.le_of_ble_eq_true rfl)).ok _,
  List.forall_mem_cons.mpr ⟨(mp_if_eq 55 dX12_content_36 (by decide)).ok _,
  List.forall_mem_cons.mpr ⟨(mp_aload_n 0 dX12_content_39 rfl).ok _,
  List.forall_mem_cons.mpr ⟨(mq_getf 12 1 dX12_content_40 rfl iu_X12 (by decide) tw_1214 rfl).ok _,
  List.forall_mem_cons.mpr ⟨(mp_iload_n 1 dX12_content_43 rfl).ok _,
  List.forall_mem_cons.mpr ⟨(mq_cs 1 (m_X12_channel l G hG hX) (sm_X12_channel l G hG hX) dX12_content_44 tw_1280 tw_1278 tw_1279 tw_14 rfl rfl hd_X12_channel (Nat.le_of_ble_eq_true rfl) (Nat.le_of_ble_eq_true rfl)).ok _,
  List.forall_mem_cons.mpr ⟨(mp_iconst (2) dX12_content_47 rfl).ok _,
  List.forall_mem_cons.mpr ⟨(mp_iadd dX12_content_48).ok _,
  List.forall_mem_cons.mpr ⟨(mp_iload_n 2 dX12_content_49 rfl).ok _,
  fun _ h => absurd h List.not_mem_nil⟩⟩⟩⟩⟩⟩⟩⟩⟩⟩⟩⟩⟩⟩⟩⟩⟩⟩⟩⟩⟩⟩⟩⟩⟩⟩⟩⟩⟩⟩
set_option maxRecDepth 100000 in
theorem ok_X12_content_1 (l : Launch) (G : am_G) (hG : am_ok G) (hX : am_xs G) : ∀ q ∈ (cl_X12_content.drop 30).take 30, am_Ok l G cX12_content 3 yX12_content.cls wa_X12_content (am_ro 2) (some .int) q.2 q.1 :=
  List.forall_mem_cons.mpr ⟨(mp_iadd dX12_content_50).ok _,
  List.forall_mem_cons.mpr ⟨(mp_iald dX12_content_51).ok _,
  List.forall_mem_cons.mpr ⟨(mp_goto 60 dX12_content_52 (by decide)).ok _,
  List.forall_mem_cons.mpr ⟨(mp_aload_n 0 dX12_content_55 rfl).ok _,
  List.forall_mem_cons.mpr ⟨(mp_iconst (2) dX12_content_56 rfl).ok _,
  List.forall_mem_cons.mpr ⟨(mq_cv 12 1 (m_X12_raises l G hG hX) (sm_X12_raises l G hG hX) dX12_content_57 rfl tw_1261 tw_1258 tw_1260 ts_34 tw_14 rfl rfl hv_X12_raises (Nat.le_of_ble_eq_true rfl) (Nat.le_of_ble_eq_true rfl)).ok _,
  List.forall_mem_cons.mpr ⟨mo_iret dX12_content_60,
  fun _ h => absurd h List.not_mem_nil⟩⟩⟩⟩⟩⟩⟩
set_option maxRecDepth 100000 in
theorem ok_X12_content (l : Launch) (G : am_G) (hG : am_ok G) (hX : am_xs G) : ∀ q ∈ cl_X12_content, am_Ok l G cX12_content 3 yX12_content.cls wa_X12_content (am_ro 2) (some .int) q.2 q.1 := by
  have e : cl_X12_content = ((cl_X12_content.drop 0).take 30) ++ (((cl_X12_content.drop 30).take 30)) := rfl
  rw [e]
  exact List.forall_mem_append.mpr ⟨ok_X12_content_0 l G hG hX, ok_X12_content_1 l G hG hX⟩
set_option maxRecDepth 100000 in
theorem sm_X12_content (l : Launch) (G : am_G) (hG : am_ok G) (hX : am_xs G) : am_mS sp_X12_content := fun av σ R R1 hR h => ⟨h.1, am_Wp.mr (fun pc => (am_lk_ok (ok_X12_content l G hG hX) pc).1) hR h.2⟩
set_option maxRecDepth 100000 in
theorem m_X12_content (l : Launch) (G : am_G) (hG : am_ok G) (hX : am_xs G) : am_Met l G yX12_content wa_X12_content (am_ro 2) sp_X12_content :=
  am_met hG (am_lk cl_X12_content) 3 (by decide +kernel) rfl (by decide) (am_lk_ok (ok_X12_content l G hG hX)) (v_X12_content (fun pc => (am_lk_ok (ok_X12_content l G hG hX) pc).1))
set_option maxRecDepth 100000 in
theorem hv_X12_endsScope : yX12_endsScope.cls = RX12 ∧ yX12_endsScope.cls ≠ "java/lang/invoke/MethodHandle" ∧ yX12_endsScope.cls ≠ "java/lang/invoke/VarHandle" ∧ (parseMethodDescriptor yX12_endsScope.desc).map (fun d => d.parameters.length) = some 2 := by decide +kernel
set_option maxRecDepth 100000 in
theorem hd_X12_endsScope : yX12_endsScope.cls ≠ "java/lang/invoke/MethodHandle" ∧ yX12_endsScope.cls ≠ "java/lang/invoke/VarHandle" ∧ (parseMethodDescriptor yX12_endsScope.desc).map (fun d => d.parameters.length) = some 2 := hv_X12_endsScope.2
abbrev wa_X12_endsScope : List Cond := Cond.code yX12_endsScope cX12_endsScope 3 none :: am_tb
set_option maxRecDepth 100000 in
theorem ok_X12_endsScope_0 (l : Launch) (G : am_G) (hG : am_ok G) (hX : am_xs G) : ∀ q ∈ (cl_X12_endsScope.drop 0).take 30, am_Ok l G cX12_endsScope 3 yX12_endsScope.cls wa_X12_endsScope (am_ro 2) none q.2 q.1 :=
  List.forall_mem_cons.mpr ⟨(mp_aload_n 0 dX12_endsScope_0 rfl).ok _,
  List.forall_mem_cons.mpr ⟨(mq_getf 12 1 dX12_endsScope_1 rfl iu_X12 (by decide) tw_1214 rfl).ok _,
  List.forall_mem_cons.mpr ⟨(mp_iload_n 2 dX12_endsScope_4 rfl).ok _,
  List.forall_mem_cons.mpr ⟨(mq_cs 1 (m_X12_scope l G hG hX) (sm_X12_scope l G hG hX) dX12_endsScope_5 tw_1466 tw_1464 tw_1465 tw_14 rfl rfl hd_X12_scope (Nat.le_of_ble_eq_true rfl) (Nat.le_of_ble_eq_true rfl)).ok _,
  List.forall_mem_cons.mpr ⟨(mp_iconst (3) dX12_endsScope_8 rfl).ok _,
  List.forall_mem_cons.mpr ⟨(mp_iadd dX12_endsScope_9).ok _,
  List.forall_mem_cons.mpr ⟨(mp_iconst (2) dX12_endsScope_10 rfl).ok _,
  List.forall_mem_cons.mpr ⟨(mp_iast dX12_endsScope_11).ok _,
  List.forall_mem_cons.mpr ⟨(mp_aload_n 0 dX12_endsScope_12 rfl).ok _,
  List.forall_mem_cons.mpr ⟨(mp_iload_n 1 dX12_endsScope_13 rfl).ok _,
  List.forall_mem_cons.mpr ⟨(mp_iconst (3) dX12_endsScope_14 rfl).ok _,
  List.forall_mem_cons.mpr ⟨(mp_aload_n 0 dX12_endsScope_15 rfl).ok _,
  List.forall_mem_cons.mpr ⟨(mp_iload_n 1 dX12_endsScope_16 rfl).ok _,
  List.forall_mem_cons.mpr ⟨(mp_iconst (3) dX12_endsScope_17 rfl).ok _,
  List.forall_mem_cons.mpr ⟨(mq_cv 12 2 (m_X12_of l G hG hX) (sm_X12_of l G hG hX) dX12_endsScope_18 rfl tw_1292 tw_1289 tw_1291 ts_40 tw_14 rfl rfl hv_X12_of (Nat.le_of_ble_eq_true rfl) (Nat.le_of_ble_eq_true rfl)).ok _,
  List.forall_mem_cons.mpr ⟨(mp_iconst (1) dX12_endsScope_21 rfl).ok _,
  List.forall_mem_cons.mpr ⟨(mp_isub dX12_endsScope_22).ok _,
  List.forall_mem_cons.mpr ⟨(mq_cv 12 3 (m_X12_sets l G hG hX) (sm_X12_sets l G hG hX) dX12_endsScope_23 rfl tw_1419 tw_1416 tw_1418 ts_44 tw_14 rfl rfl hv_X12_sets (Nat.le_of_ble_eq_true rfl) (Nat.le_of_ble_eq_true rfl)).ok _,
  List.forall_mem_cons.mpr ⟨mo_vret dX12_endsScope_26,
  fun _ h => absurd h List.not_mem_nil⟩⟩⟩⟩⟩⟩⟩⟩⟩⟩⟩⟩⟩⟩⟩⟩⟩⟩⟩
set_option maxRecDepth 100000 in
theorem ok_X12_endsScope (l : Launch) (G : am_G) (hG : am_ok G) (hX : am_xs G) : ∀ q ∈ cl_X12_endsScope, am_Ok l G cX12_endsScope 3 yX12_endsScope.cls wa_X12_endsScope (am_ro 2) none q.2 q.1 := by
  exact ok_X12_endsScope_0 l G hG hX
set_option maxRecDepth 100000 in
theorem sm_X12_endsScope (l : Launch) (G : am_G) (hG : am_ok G) (hX : am_xs G) : am_mS sp_X12_endsScope := fun av σ R R1 hR h => ⟨h.1, am_Wp.mr (fun pc => (am_lk_ok (ok_X12_endsScope l G hG hX) pc).1) hR h.2⟩
set_option maxRecDepth 100000 in
theorem m_X12_endsScope (l : Launch) (G : am_G) (hG : am_ok G) (hX : am_xs G) : am_Met l G yX12_endsScope wa_X12_endsScope (am_ro 2) sp_X12_endsScope :=
  am_met hG (am_lk cl_X12_endsScope) 3 (by decide +kernel) rfl (by decide) (am_lk_ok (ok_X12_endsScope l G hG hX)) (v_X12_endsScope (fun pc => (am_lk_ok (ok_X12_endsScope l G hG hX) pc).1))
