/-! the law, from its entry -/
theorem st_loc {b h a d : Nat} {ls : Array Slot} {G : am_G} (hl : lv_has ls 7 [(4, .int 0), (3, .ref a), (2, .ref (h + d)), (1, .ref h), (0, .ref b)]) (h0 : G.1 0 = h) (h9 : G.1 189 = h + d) : lv_has ls 7 (ld_l G a b 0) := by
  refine ⟨hl.1, hl.2.1, fun q hq => hl.2.2 q ?_⟩
  unfold ld_l at hq
  rw [h0, h9] at hq
  simp only [List.mem_cons, List.not_mem_nil, or_false] at hq ⊢
  rcases hq with hq | hq | hq | hq | hq
  · exact Or.inr (Or.inr (Or.inr (Or.inr hq)))
  · exact Or.inr (Or.inr (Or.inr (Or.inl hq)))
  · exact Or.inr (Or.inr (Or.inl hq))
  · exact Or.inr (Or.inl hq)
  · exact Or.inl hq
theorem whole_start {p : Program} {e : Env} {s : State} {m : MethodId} {below : List Frame} {meth : Method} {c : Code} (l : Launch) (hflags : l.flags = flags0) {b L : Nat} {xs : Nat → Int32} (hL : L ≤ 2048) (C0 : lw_At p s m meth c b L xs) : W p l e room_1 s m #[Value.ref b] below meth c s.heap [] 0 0 (lw_Z below #[Value.ref b] s) (entryFrame m ([Value.ref b] : List Value).toArray 7) := by
  obtain ⟨hx, hb, hr, hml, hown, ht, hX, hbl, hlocks, hgv⟩ := C0
  have ht1 : ∀ w ∈ tables_1, w.before #[Value.ref b] s = true := fun w h => ht w (List.mem_append_right _ h)
  have hts : ∀ w ∈ Cond.initialized RL :: am_tb, w.before #[Value.ref b] s = true := List.forall_mem_cons.mpr ⟨ht1 _ (List.mem_of_getElem? (i := 0) (by decide +kernel)), fun w h => ht w (List.mem_filter.mp h).1⟩
  have hst : l.stackTraces = false := by
    unfold Launch.stackTraces
    rw [hflags]
    decide +kernel
  obtain ⟨ad, hev⟩ := ev_all ht1 hgv
  obtain ⟨D, hD⟩ := ev_D hts
  obtain ⟨cI, hA1, hA2⟩ := ev_ar (hts _ (List.mem_cons_of_mem _ ux_52))
  obtain ⟨hXn, hNc, hXs⟩ := hev D cI
  have hK : va_K D vwCl [(cI, .int)] s := ev_K hD hA1 hA2
  have hK0 : va_K D vwCl [] s := hK.sub [] rfl
  have hNw : an_Nw s := fun q hq => va_Nw.of rfl (ht1 _ (ev_s5 q hq))
  have hfI : s.vm.findClass "[I" = some cI := hA2
  have hF : CallFix p m c cL_law 7 s #[Value.ref b] (Cond.initialized RL :: am_tb) RL := ⟨hx, hb, hml, hown, hts⟩
  have hl := lv_entry ([.ref b]) (n := 7) (Nat.le_of_ble_eq_true rfl)
  rw [lg_entry_eq]
  generalize (lg_sl ([.ref b]) ++ List.replicate (7 - (lg_sl ([.ref b])).length) Slot.unset).toArray = ls at hl ⊢
  have hl : lv_has ls 7 [(0, .ref b)] := hl
  refine st_clas hF hK0 hfI hNw hl (fun H1 ls hz1 hB1 ho1 hl => ?_)
  refine st_mode hF hK0 hfI hNw hl hz1 hB1 ho1 (fun H2 ls hz2 hB2 hM2 ho2 hl => ?_)
  refine lv_iconst (v := 1) hF.1 hF.2.1 dL_law_16 rfl ?_
  refine va_newaK (atype := .long) (g := F0 m 17 ls [.int 1]) hF.1 hF.2.1 (hts _ (List.mem_cons_of_mem _ ux_1634)) rfl dL_law_17 rfl (by decide) (N := 1) (by decide) (by decide) (Nat.le_of_ble_eq_true rfl) (Nat.le_of_ble_eq_true rfl) hz2 (fun H3 cL h1 h2 h3 h4 h5 => ?_)
  refine W.eq (g2 := F0 m 19 ls [.ref (s.heap.size + 194)]) rfl ?_
  refine lv_astore_n (lv' := [(3, .ref (s.heap.size + 194)), (2, .ref (s.heap.size + 189)), (1, .ref s.heap.size), (0, .ref b)]) hF.1 hF.2.1 dL_law_19 rfl hl (by decide) rfl (fun ls hl => ?_)
  refine lv_iconst (v := 0) hF.1 hF.2.1 dL_law_20 rfl ?_
  refine lv_istore (lv' := [(4, .int 0), (3, .ref (s.heap.size + 194)), (2, .ref (s.heap.size + 189)), (1, .ref s.heap.size), (0, .ref b)]) hF.1 hF.2.1 dL_law_21 hl (by decide) rfl (fun ls hl => ?_)
  have hB3 : an_clas D cI s.heap.size H3 := an_clas_loc s.heap.size H2 H3 (fun q _ q2 => h3 q (by omega)) hB2
  have hM3 : an_mode D cI (s.heap.size + 189) H3 := an_mode_loc (s.heap.size + 189) H2 H3 (fun q _ q2 => h3 q (by omega)) hM2
  have ho3 : ∀ q : Nat, q < s.heap.size → H3[q]? = s.heap[q]? := fun q hq => (h3 q (by omega)).trans (ho2 q hq)
  have hH : am_H (ev_G s D cI ad) zG0 H3 := ⟨ao_P (fun k hk => ev_r k hk) hB3 hM3, (by omega : s.heap.size ≤ H3.size), ho3⟩
  have hO : al_O (s.heap.size + 194) cL (fun _ => 0) H3 := h1
  have hKl : al_K (ev_G s D cI ad) cL s := ev_K (ty := .long) hD h4 h5
  have hC : ld_C l (ev_G s D cI ad) (s.heap.size + 194) cL b L xs p s m c := ⟨⟨hF, ⟨hK, State.WarmedH.refl s⟩, hKl⟩, ⟨ev_ok, hXn, hNc, hXs, hst⟩, ⟨ev_o, Nat.le_add_right _ _, ev_A⟩, hX, hbl, hL⟩
  have hS : va_S (ld_A s) s.heap H3 [] := ⟨by omega, fun q q1 _ => ho3 q q1, fun _ h => by cases h⟩
  refine lo_loop hC (fun H4 locs4 ls4 cells slots hc hs hS4 => ?_) 512 (i0 := 0) (N := 0) (by omega) (by omega) (by omega) (Nat.le_of_ble_eq_true rfl) (Nat.le_of_ble_eq_true rfl) (Nat.lt_of_lt_of_le (Nat.lt_succ_self _) (Nat.le_of_ble_eq_true rfl)) zG0_all hH hO hS (st_loc hl (ev_r 0 (by decide)) (ev_r 189 (by decide)))
  refine lv_iconst (v := 1) hF.1 hF.2.1 dL_law_1237 rfl ?_
  refine va_forget (fun z hz => hS4.2.2 z hz) ?_
  refine W.widen (k := 601024) (n := 7293034) hc hs ?_
  exact lw_ret hx hb hr hlocks dL_law_1238
