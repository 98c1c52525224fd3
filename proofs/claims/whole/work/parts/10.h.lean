/-! the model's tables are monotone, without premises (written by program: wip/whole/gen_hm.py) -/
def z_G0 : am_G := (fun k => k, ((fun _ => 0, fun _ _ => 0) : va_G), 0, #[], fun _ => False)
theorem z_ok0 : am_ok z_G0 := ⟨fun _ _ _ _ h => h, fun _ _ => Nat.zero_le _, fun _ _ _ h => h, fun _ _ _ h => h⟩
theorem z_xs0 : am_xs z_G0 := fun _ h => h.elim
theorem hm_X12_channel : ∀ pc, am_mono (am_lk cl_X12_channel pc) := fun pc => (am_lk_ok (ok_X12_channel launch0 z_G0 z_ok0 z_xs0) pc).1
theorem hs_X12_channel : am_mS sp_X12_channel := sm_X12_channel launch0 z_G0 z_ok0 z_xs0
theorem hm_X12_copies : ∀ pc, am_mono (am_lk cl_X12_copies pc) := fun pc => (am_lk_ok (ok_X12_copies launch0 z_G0 z_ok0 z_xs0) pc).1
theorem hs_X12_copies : am_mS sp_X12_copies := sm_X12_copies launch0 z_G0 z_ok0 z_xs0
theorem hm_X12_errorPosition : ∀ pc, am_mono (am_lk cl_X12_errorPosition pc) := fun pc => (am_lk_ok (ok_X12_errorPosition launch0 z_G0 z_ok0 z_xs0) pc).1
theorem hs_X12_errorPosition : am_mS sp_X12_errorPosition := sm_X12_errorPosition launch0 z_G0 z_ok0 z_xs0
theorem hm_X12_fault : ∀ pc, am_mono (am_lk cl_X12_fault pc) := fun pc => (am_lk_ok (ok_X12_fault launch0 z_G0 z_ok0 z_xs0) pc).1
theorem hs_X12_fault : am_mS sp_X12_fault := sm_X12_fault launch0 z_G0 z_ok0 z_xs0
theorem hm_X12_firstCause : ∀ pc, am_mono (am_lk cl_X12_firstCause pc) := fun pc => (am_lk_ok (ok_X12_firstCause launch0 z_G0 z_ok0 z_xs0) pc).1
theorem hs_X12_firstCause : am_mS sp_X12_firstCause := sm_X12_firstCause launch0 z_G0 z_ok0 z_xs0
theorem hm_X12_here : ∀ pc, am_mono (am_lk cl_X12_here pc) := fun pc => (am_lk_ok (ok_X12_here launch0 z_G0 z_ok0 z_xs0) pc).1
theorem hs_X12_here : am_mS sp_X12_here := sm_X12_here launch0 z_G0 z_ok0 z_xs0
theorem hm_X12_in : ∀ pc, am_mono (am_lk cl_X12_in pc) := fun pc => (am_lk_ok (ok_X12_in launch0 z_G0 z_ok0 z_xs0) pc).1
theorem hs_X12_in : am_mS sp_X12_in := sm_X12_in launch0 z_G0 z_ok0 z_xs0
theorem hm_X12_queues : ∀ pc, am_mono (am_lk cl_X12_queues pc) := fun pc => (am_lk_ok (ok_X12_queues launch0 z_G0 z_ok0 z_xs0) pc).1
theorem hs_X12_queues : am_mS sp_X12_queues := sm_X12_queues launch0 z_G0 z_ok0 z_xs0
theorem hm_X12_raises : ∀ pc, am_mono (am_lk cl_X12_raises pc) := fun pc => (am_lk_ok (ok_X12_raises launch0 z_G0 z_ok0 z_xs0) pc).1
theorem hs_X12_raises : am_mS sp_X12_raises := sm_X12_raises launch0 z_G0 z_ok0 z_xs0
theorem hm_X12_save : ∀ pc, am_mono (am_lk cl_X12_save pc) := fun pc => (am_lk_ok (ok_X12_save launch0 z_G0 z_ok0 z_xs0) pc).1
theorem hs_X12_save : am_mS sp_X12_save := sm_X12_save launch0 z_G0 z_ok0 z_xs0
theorem hm_X12_scope : ∀ pc, am_mono (am_lk cl_X12_scope pc) := fun pc => (am_lk_ok (ok_X12_scope launch0 z_G0 z_ok0 z_xs0) pc).1
theorem hs_X12_scope : am_mS sp_X12_scope := sm_X12_scope launch0 z_G0 z_ok0 z_xs0
theorem hm_X12_task : ∀ pc, am_mono (am_lk cl_X12_task pc) := fun pc => (am_lk_ok (ok_X12_task launch0 z_G0 z_ok0 z_xs0) pc).1
theorem hs_X12_task : am_mS sp_X12_task := sm_X12_task launch0 z_G0 z_ok0 z_xs0
theorem hm_X12_thrown : ∀ pc, am_mono (am_lk cl_X12_thrown pc) := fun pc => (am_lk_ok (ok_X12_thrown launch0 z_G0 z_ok0 z_xs0) pc).1
theorem hs_X12_thrown : am_mS sp_X12_thrown := sm_X12_thrown launch0 z_G0 z_ok0 z_xs0
theorem hm_X12_append : ∀ pc, am_mono (am_lk cl_X12_append pc) := fun pc => (am_lk_ok (ok_X12_append launch0 z_G0 z_ok0 z_xs0) pc).1
theorem hs_X12_append : am_mS sp_X12_append := sm_X12_append launch0 z_G0 z_ok0 z_xs0
theorem hm_X12_digit : ∀ pc, am_mono (am_lk cl_X12_digit pc) := fun pc => (am_lk_ok (ok_X12_digit launch0 z_G0 z_ok0 z_xs0) pc).1
theorem hs_X12_digit : am_mS sp_X12_digit := sm_X12_digit launch0 z_G0 z_ok0 z_xs0
theorem hm_X12_ended : ∀ pc, am_mono (am_lk cl_X12_ended pc) := fun pc => (am_lk_ok (ok_X12_ended launch0 z_G0 z_ok0 z_xs0) pc).1
theorem hs_X12_ended : am_mS sp_X12_ended := sm_X12_ended launch0 z_G0 z_ok0 z_xs0
theorem hm_X12_hasFresh : ∀ pc, am_mono (am_lk cl_X12_hasFresh pc) := fun pc => (am_lk_ok (ok_X12_hasFresh launch0 z_G0 z_ok0 z_xs0) pc).1
theorem hs_X12_hasFresh : am_mS sp_X12_hasFresh := sm_X12_hasFresh launch0 z_G0 z_ok0 z_xs0
theorem hm_X12_isChannel : ∀ pc, am_mono (am_lk cl_X12_isChannel pc) := fun pc => (am_lk_ok (ok_X12_isChannel launch0 z_G0 z_ok0 z_xs0) pc).1
theorem hs_X12_isChannel : am_mS sp_X12_isChannel := sm_X12_isChannel launch0 z_G0 z_ok0 z_xs0
theorem hm_X12_isDue : ∀ pc, am_mono (am_lk cl_X12_isDue pc) := fun pc => (am_lk_ok (ok_X12_isDue launch0 z_G0 z_ok0 z_xs0) pc).1
theorem hs_X12_isDue : am_mS sp_X12_isDue := sm_X12_isDue launch0 z_G0 z_ok0 z_xs0
theorem hm_X12_isTask : ∀ pc, am_mono (am_lk cl_X12_isTask pc) := fun pc => (am_lk_ok (ok_X12_isTask launch0 z_G0 z_ok0 z_xs0) pc).1
theorem hs_X12_isTask : am_mS sp_X12_isTask := sm_X12_isTask launch0 z_G0 z_ok0 z_xs0
theorem hm_X12_of : ∀ pc, am_mono (am_lk cl_X12_of pc) := fun pc => (am_lk_ok (ok_X12_of launch0 z_G0 z_ok0 z_xs0) pc).1
theorem hs_X12_of : am_mS sp_X12_of := sm_X12_of launch0 z_G0 z_ok0 z_xs0
theorem hm_X12_program : ∀ pc, am_mono (am_lk cl_X12_program pc) := fun pc => (am_lk_ok (ok_X12_program launch0 z_G0 z_ok0 z_xs0) pc).1
theorem hs_X12_program : am_mS sp_X12_program := sm_X12_program launch0 z_G0 z_ok0 z_xs0
theorem hm_X12_ready : ∀ pc, am_mono (am_lk cl_X12_ready pc) := fun pc => (am_lk_ok (ok_X12_ready launch0 z_G0 z_ok0 z_xs0) pc).1
theorem hs_X12_ready : am_mS sp_X12_ready := sm_X12_ready launch0 z_G0 z_ok0 z_xs0
theorem hm_X12_restore : ∀ pc, am_mono (am_lk cl_X12_restore pc) := fun pc => (am_lk_ok (ok_X12_restore launch0 z_G0 z_ok0 z_xs0) pc).1
theorem hs_X12_restore : am_mS sp_X12_restore := sm_X12_restore launch0 z_G0 z_ok0 z_xs0
theorem hm_X12_sets : ∀ pc, am_mono (am_lk cl_X12_sets pc) := fun pc => (am_lk_ok (ok_X12_sets launch0 z_G0 z_ok0 z_xs0) pc).1
theorem hs_X12_sets : am_mS sp_X12_sets := sm_X12_sets launch0 z_G0 z_ok0 z_xs0
theorem hm_X12_cleans : ∀ pc, am_mono (am_lk cl_X12_cleans pc) := fun pc => (am_lk_ok (ok_X12_cleans launch0 z_G0 z_ok0 z_xs0) pc).1
theorem hs_X12_cleans : am_mS sp_X12_cleans := sm_X12_cleans launch0 z_G0 z_ok0 z_xs0
theorem hm_X12_content : ∀ pc, am_mono (am_lk cl_X12_content pc) := fun pc => (am_lk_ok (ok_X12_content launch0 z_G0 z_ok0 z_xs0) pc).1
theorem hs_X12_content : am_mS sp_X12_content := sm_X12_content launch0 z_G0 z_ok0 z_xs0
theorem hm_X12_endsScope : ∀ pc, am_mono (am_lk cl_X12_endsScope pc) := fun pc => (am_lk_ok (ok_X12_endsScope launch0 z_G0 z_ok0 z_xs0) pc).1
theorem hs_X12_endsScope : am_mS sp_X12_endsScope := sm_X12_endsScope launch0 z_G0 z_ok0 z_xs0
theorem hm_X12_failure : ∀ pc, am_mono (am_lk cl_X12_failure pc) := fun pc => (am_lk_ok (ok_X12_failure launch0 z_G0 z_ok0 z_xs0) pc).1
theorem hs_X12_failure : am_mS sp_X12_failure := sm_X12_failure launch0 z_G0 z_ok0 z_xs0
theorem hm_X12_gets : ∀ pc, am_mono (am_lk cl_X12_gets pc) := fun pc => (am_lk_ok (ok_X12_gets launch0 z_G0 z_ok0 z_xs0) pc).1
theorem hs_X12_gets : am_mS sp_X12_gets := sm_X12_gets launch0 z_G0 z_ok0 z_xs0
theorem hm_X12_inner : ∀ pc, am_mono (am_lk cl_X12_inner pc) := fun pc => (am_lk_ok (ok_X12_inner launch0 z_G0 z_ok0 z_xs0) pc).1
theorem hs_X12_inner : am_mS sp_X12_inner := sm_X12_inner launch0 z_G0 z_ok0 z_xs0
theorem hm_X12_isAbove : ∀ pc, am_mono (am_lk cl_X12_isAbove pc) := fun pc => (am_lk_ok (ok_X12_isAbove launch0 z_G0 z_ok0 z_xs0) pc).1
theorem hs_X12_isAbove : am_mS sp_X12_isAbove := sm_X12_isAbove launch0 z_G0 z_ok0 z_xs0
theorem hm_X12_isLive : ∀ pc, am_mono (am_lk cl_X12_isLive pc) := fun pc => (am_lk_ok (ok_X12_isLive launch0 z_G0 z_ok0 z_xs0) pc).1
theorem hs_X12_isLive : am_mS sp_X12_isLive := sm_X12_isLive launch0 z_G0 z_ok0 z_xs0
theorem hm_X12_nextTime : ∀ pc, am_mono (am_lk cl_X12_nextTime pc) := fun pc => (am_lk_ok (ok_X12_nextTime launch0 z_G0 z_ok0 z_xs0) pc).1
theorem hs_X12_nextTime : am_mS sp_X12_nextTime := sm_X12_nextTime launch0 z_G0 z_ok0 z_xs0
theorem hm_X12_readies : ∀ pc, am_mono (am_lk cl_X12_readies pc) := fun pc => (am_lk_ok (ok_X12_readies launch0 z_G0 z_ok0 z_xs0) pc).1
theorem hs_X12_readies : am_mS sp_X12_readies := sm_X12_readies launch0 z_G0 z_ok0 z_xs0
theorem hm_X12_scopeOf : ∀ pc, am_mono (am_lk cl_X12_scopeOf pc) := fun pc => (am_lk_ok (ok_X12_scopeOf launch0 z_G0 z_ok0 z_xs0) pc).1
theorem hs_X12_scopeOf : am_mS sp_X12_scopeOf := sm_X12_scopeOf launch0 z_G0 z_ok0 z_xs0
theorem hm_X12_sleeps : ∀ pc, am_mono (am_lk cl_X12_sleeps pc) := fun pc => (am_lk_ok (ok_X12_sleeps launch0 z_G0 z_ok0 z_xs0) pc).1
theorem hs_X12_sleeps : am_mS sp_X12_sleeps := sm_X12_sleeps launch0 z_G0 z_ok0 z_xs0
theorem hm_X12_task_ : ∀ pc, am_mono (am_lk cl_X12_task_ pc) := fun pc => (am_lk_ok (ok_X12_task_ launch0 z_G0 z_ok0 z_xs0) pc).1
theorem hs_X12_task_ : am_mS sp_X12_task_ := sm_X12_task_ launch0 z_G0 z_ok0 z_xs0
theorem hm_X12_waits : ∀ pc, am_mono (am_lk cl_X12_waits pc) := fun pc => (am_lk_ok (ok_X12_waits launch0 z_G0 z_ok0 z_xs0) pc).1
theorem hs_X12_waits : am_mS sp_X12_waits := sm_X12_waits launch0 z_G0 z_ok0 z_xs0
theorem hm_X12_waitsFor : ∀ pc, am_mono (am_lk cl_X12_waitsFor pc) := fun pc => (am_lk_ok (ok_X12_waitsFor launch0 z_G0 z_ok0 z_xs0) pc).1
theorem hs_X12_waitsFor : am_mS sp_X12_waitsFor := sm_X12_waitsFor launch0 z_G0 z_ok0 z_xs0
theorem hm_X12_children : ∀ pc, am_mono (am_lk cl_X12_children pc) := fun pc => (am_lk_ok (ok_X12_children launch0 z_G0 z_ok0 z_xs0) pc).1
theorem hs_X12_children : am_mS sp_X12_children := sm_X12_children launch0 z_G0 z_ok0 z_xs0
theorem hm_X12_interrupts : ∀ pc, am_mono (am_lk cl_X12_interrupts pc) := fun pc => (am_lk_ok (ok_X12_interrupts launch0 z_G0 z_ok0 z_xs0) pc).1
theorem hs_X12_interrupts : am_mS sp_X12_interrupts := sm_X12_interrupts launch0 z_G0 z_ok0 z_xs0
theorem hm_X12_live : ∀ pc, am_mono (am_lk cl_X12_live pc) := fun pc => (am_lk_ok (ok_X12_live launch0 z_G0 z_ok0 z_xs0) pc).1
theorem hs_X12_live : am_mS sp_X12_live := sm_X12_live launch0 z_G0 z_ok0 z_xs0
theorem hm_X12_longest : ∀ pc, am_mono (am_lk cl_X12_longest pc) := fun pc => (am_lk_ok (ok_X12_longest launch0 z_G0 z_ok0 z_xs0) pc).1
theorem hs_X12_longest : am_mS sp_X12_longest := sm_X12_longest launch0 z_G0 z_ok0 z_xs0
theorem hm_X12_simple : ∀ pc, am_mono (am_lk cl_X12_simple pc) := fun pc => (am_lk_ok (ok_X12_simple launch0 z_G0 z_ok0 z_xs0) pc).1
theorem hs_X12_simple : am_mS sp_X12_simple := sm_X12_simple launch0 z_G0 z_ok0 z_xs0
theorem hm_X12_starts : ∀ pc, am_mono (am_lk cl_X12_starts pc) := fun pc => (am_lk_ok (ok_X12_starts launch0 z_G0 z_ok0 z_xs0) pc).1
theorem hs_X12_starts : am_mS sp_X12_starts := sm_X12_starts launch0 z_G0 z_ok0 z_xs0
theorem hm_X12_waiting : ∀ pc, am_mono (am_lk cl_X12_waiting pc) := fun pc => (am_lk_ok (ok_X12_waiting launch0 z_G0 z_ok0 z_xs0) pc).1
theorem hs_X12_waiting : am_mS sp_X12_waiting := sm_X12_waiting launch0 z_G0 z_ok0 z_xs0
theorem hm_X12_canReceive : ∀ pc, am_mono (am_lk cl_X12_canReceive pc) := fun pc => (am_lk_ok (ok_X12_canReceive launch0 z_G0 z_ok0 z_xs0) pc).1
theorem hs_X12_canReceive : am_mS sp_X12_canReceive := sm_X12_canReceive launch0 z_G0 z_ok0 z_xs0
theorem hm_X12_cancel : ∀ pc, am_mono (am_lk cl_X12_cancel pc) := fun pc => (am_lk_ok (ok_X12_cancel launch0 z_G0 z_ok0 z_xs0) pc).1
theorem hs_X12_cancel : am_mS sp_X12_cancel := sm_X12_cancel launch0 z_G0 z_ok0 z_xs0
theorem hm_X12_cancels : ∀ pc, am_mono (am_lk cl_X12_cancels pc) := fun pc => (am_lk_ok (ok_X12_cancels launch0 z_G0 z_ok0 z_xs0) pc).1
theorem hs_X12_cancels : am_mS sp_X12_cancels := sm_X12_cancels launch0 z_G0 z_ok0 z_xs0
theorem hm_X12_channel_ : ∀ pc, am_mono (am_lk cl_X12_channel_ pc) := fun pc => (am_lk_ok (ok_X12_channel_ launch0 z_G0 z_ok0 z_xs0) pc).1
theorem hs_X12_channel_ : am_mS sp_X12_channel_ := sm_X12_channel_ launch0 z_G0 z_ok0 z_xs0
theorem hm_X12_closes : ∀ pc, am_mono (am_lk cl_X12_closes pc) := fun pc => (am_lk_ok (ok_X12_closes launch0 z_G0 z_ok0 z_xs0) pc).1
theorem hs_X12_closes : am_mS sp_X12_closes := sm_X12_closes launch0 z_G0 z_ok0 z_xs0
theorem hm_X12_count : ∀ pc, am_mono (am_lk cl_X12_count pc) := fun pc => (am_lk_ok (ok_X12_count launch0 z_G0 z_ok0 z_xs0) pc).1
theorem hs_X12_count : am_mS sp_X12_count := sm_X12_count launch0 z_G0 z_ok0 z_xs0
theorem hm_X12_fails : ∀ pc, am_mono (am_lk cl_X12_fails pc) := fun pc => (am_lk_ok (ok_X12_fails launch0 z_G0 z_ok0 z_xs0) pc).1
theorem hs_X12_fails : am_mS sp_X12_fails := sm_X12_fails launch0 z_G0 z_ok0 z_xs0
theorem hm_X12_next : ∀ pc, am_mono (am_lk cl_X12_next pc) := fun pc => (am_lk_ok (ok_X12_next launch0 z_G0 z_ok0 z_xs0) pc).1
theorem hs_X12_next : am_mS sp_X12_next := sm_X12_next launch0 z_G0 z_ok0 z_xs0
theorem hm_X12_passes : ∀ pc, am_mono (am_lk cl_X12_passes pc) := fun pc => (am_lk_ok (ok_X12_passes launch0 z_G0 z_ok0 z_xs0) pc).1
theorem hs_X12_passes : am_mS sp_X12_passes := sm_X12_passes launch0 z_G0 z_ok0 z_xs0
theorem hm_X12_receives : ∀ pc, am_mono (am_lk cl_X12_receives pc) := fun pc => (am_lk_ok (ok_X12_receives launch0 z_G0 z_ok0 z_xs0) pc).1
theorem hs_X12_receives : am_mS sp_X12_receives := sm_X12_receives launch0 z_G0 z_ok0 z_xs0
theorem hm_X12_reset : ∀ pc, am_mono (am_lk cl_X12_reset pc) := fun pc => (am_lk_ok (ok_X12_reset launch0 z_G0 z_ok0 z_xs0) pc).1
theorem hs_X12_reset : am_mS sp_X12_reset := sm_X12_reset launch0 z_G0 z_ok0 z_xs0
theorem hm_X12_scope_ : ∀ pc, am_mono (am_lk cl_X12_scope_ pc) := fun pc => (am_lk_ok (ok_X12_scope_ launch0 z_G0 z_ok0 z_xs0) pc).1
theorem hs_X12_scope_ : am_mS sp_X12_scope_ := sm_X12_scope_ launch0 z_G0 z_ok0 z_xs0
theorem hm_X12_sends : ∀ pc, am_mono (am_lk cl_X12_sends pc) := fun pc => (am_lk_ok (ok_X12_sends launch0 z_G0 z_ok0 z_xs0) pc).1
theorem hs_X12_sends : am_mS sp_X12_sends := sm_X12_sends launch0 z_G0 z_ok0 z_xs0
theorem hm_X12_start : ∀ pc, am_mono (am_lk cl_X12_start pc) := fun pc => (am_lk_ok (ok_X12_start launch0 z_G0 z_ok0 z_xs0) pc).1
theorem hs_X12_start : am_mS sp_X12_start := sm_X12_start launch0 z_G0 z_ok0 z_xs0
theorem hm_X12_chooses : ∀ pc, am_mono (am_lk cl_X12_chooses pc) := fun pc => (am_lk_ok (ok_X12_chooses launch0 z_G0 z_ok0 z_xs0) pc).1
theorem hs_X12_chooses : am_mS sp_X12_chooses := sm_X12_chooses launch0 z_G0 z_ok0 z_xs0
theorem hm_X12_cleanup : ∀ pc, am_mono (am_lk cl_X12_cleanup pc) := fun pc => (am_lk_ok (ok_X12_cleanup launch0 z_G0 z_ok0 z_xs0) pc).1
theorem hs_X12_cleanup : am_mS sp_X12_cleanup := sm_X12_cleanup launch0 z_G0 z_ok0 z_xs0
theorem hm_X12_ends : ∀ pc, am_mono (am_lk cl_X12_ends pc) := fun pc => (am_lk_ok (ok_X12_ends launch0 z_G0 z_ok0 z_xs0) pc).1
theorem hs_X12_ends : am_mS sp_X12_ends := sm_X12_ends launch0 z_G0 z_ok0 z_xs0
theorem hm_X12_fails_ : ∀ pc, am_mono (am_lk cl_X12_fails_ pc) := fun pc => (am_lk_ok (ok_X12_fails_ launch0 z_G0 z_ok0 z_xs0) pc).1
theorem hs_X12_fails_ : am_mS sp_X12_fails_ := sm_X12_fails_ launch0 z_G0 z_ok0 z_xs0
theorem hm_X12_unwinds : ∀ pc, am_mono (am_lk cl_X12_unwinds pc) := fun pc => (am_lk_ok (ok_X12_unwinds launch0 z_G0 z_ok0 z_xs0) pc).1
theorem hs_X12_unwinds : am_mS sp_X12_unwinds := sm_X12_unwinds launch0 z_G0 z_ok0 z_xs0
theorem hm_X12_instruction : ∀ pc, am_mono (am_lk cl_X12_instruction pc) := fun pc => (am_lk_ok (ok_X12_instruction launch0 z_G0 z_ok0 z_xs0) pc).1
theorem hs_X12_instruction : am_mS sp_X12_instruction := sm_X12_instruction launch0 z_G0 z_ok0 z_xs0
theorem hm_X12_opens : ∀ pc, am_mono (am_lk cl_X12_opens pc) := fun pc => (am_lk_ok (ok_X12_opens launch0 z_G0 z_ok0 z_xs0) pc).1
theorem hs_X12_opens : am_mS sp_X12_opens := sm_X12_opens launch0 z_G0 z_ok0 z_xs0
theorem hm_X12_executes : ∀ pc, am_mono (am_lk cl_X12_executes pc) := fun pc => (am_lk_ok (ok_X12_executes launch0 z_G0 z_ok0 z_xs0) pc).1
theorem hs_X12_executes : am_mS sp_X12_executes := sm_X12_executes launch0 z_G0 z_ok0 z_xs0
theorem hm_X12_instructions : ∀ pc, am_mono (am_lk cl_X12_instructions pc) := fun pc => (am_lk_ok (ok_X12_instructions launch0 z_G0 z_ok0 z_xs0) pc).1
theorem hs_X12_instructions : am_mS sp_X12_instructions := sm_X12_instructions launch0 z_G0 z_ok0 z_xs0
theorem hm_X12_commands : ∀ pc, am_mono (am_lk cl_X12_commands pc) := fun pc => (am_lk_ok (ok_X12_commands launch0 z_G0 z_ok0 z_xs0) pc).1
theorem hs_X12_commands : am_mS sp_X12_commands := sm_X12_commands launch0 z_G0 z_ok0 z_xs0
theorem hm_X12_turns : ∀ pc, am_mono (am_lk cl_X12_turns pc) := fun pc => (am_lk_ok (ok_X12_turns launch0 z_G0 z_ok0 z_xs0) pc).1
theorem hs_X12_turns : am_mS sp_X12_turns := sm_X12_turns launch0 z_G0 z_ok0 z_xs0
theorem hm_X12_execute : ∀ pc, am_mono (am_lk cl_X12_execute pc) := fun pc => (am_lk_ok (ok_X12_execute launch0 z_G0 z_ok0 z_xs0) pc).1
theorem hs_X12_execute : am_mS sp_X12_execute := sm_X12_execute launch0 z_G0 z_ok0 z_xs0
theorem hm_X12_turns_ : ∀ pc, am_mono (am_lk cl_X12_turns_ pc) := fun pc => (am_lk_ok (ok_X12_turns_ launch0 z_G0 z_ok0 z_xs0) pc).1
theorem hs_X12_turns_ : am_mS sp_X12_turns_ := sm_X12_turns_ launch0 z_G0 z_ok0 z_xs0
theorem hm_X12_run : ∀ pc, am_mono (am_lk cl_X12_run pc) := fun pc => (am_lk_ok (ok_X12_run launch0 z_G0 z_ok0 z_xs0) pc).1
theorem hs_X12_run : am_mS sp_X12_run := sm_X12_run launch0 z_G0 z_ok0 z_xs0
