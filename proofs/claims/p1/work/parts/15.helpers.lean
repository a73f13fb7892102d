theorem qw_407 : Cond.methodLink RL 7 yX11_node ∈ wsL_law := tseg_4 (by decide +kernel) (List.mem_of_getElem? (i := 232) (by decide +kernel))
theorem qw_408 : Cond.instanceMethod yX11_node ∈ wsL_law := tseg_4 (by decide +kernel) (List.mem_of_getElem? (i := 233) (by decide +kernel))
theorem qw_409 : Cond.selects RX11 yX11_node yX11_node ∈ wsL_law := tseg_4 (by decide +kernel) (List.mem_of_getElem? (i := 234) (by decide +kernel))
theorem qw_410 : Cond.code yX11_node cX11_node 3 (some .int) ∈ wsL_law := tseg_4 (by decide +kernel) (List.mem_of_getElem? (i := 235) (by decide +kernel))
theorem qw_411 : Cond.classLink RL 13 "java/util/NoSuchElementException" ∈ wsL_law := tseg_4 (by decide +kernel) (List.mem_of_getElem? (i := 231) (by decide +kernel))
theorem qw_412 : Cond.methodLink RL 15 yX11_way ∈ wsL_law := tseg_5 (by decide +kernel) (List.mem_of_getElem? (i := 60) (by decide +kernel))
theorem qw_413 : Cond.instanceMethod yX11_way ∈ wsL_law := tseg_5 (by decide +kernel) (List.mem_of_getElem? (i := 61) (by decide +kernel))
theorem qw_414 : Cond.selects RX11 yX11_way yX11_way ∈ wsL_law := tseg_5 (by decide +kernel) (List.mem_of_getElem? (i := 62) (by decide +kernel))
theorem qw_415 : Cond.code yX11_way cX11_way 4 (some .int) ∈ wsL_law := tseg_5 (by decide +kernel) (List.mem_of_getElem? (i := 63) (by decide +kernel))
theorem qw_416 : Cond.methodLink RL 19 yX11_worth ∈ wsL_law := tseg_5 (by decide +kernel) (List.mem_of_getElem? (i := 67) (by decide +kernel))
theorem qw_417 : Cond.instanceMethod yX11_worth ∈ wsL_law := tseg_5 (by decide +kernel) (List.mem_of_getElem? (i := 68) (by decide +kernel))
theorem qw_418 : Cond.selects RX11 yX11_worth yX11_worth ∈ wsL_law := tseg_5 (by decide +kernel) (List.mem_of_getElem? (i := 69) (by decide +kernel))
theorem qw_419 : Cond.code yX11_worth cX11_worth 3 (some .long) ∈ wsL_law := tseg_5 (by decide +kernel) (List.mem_of_getElem? (i := 70) (by decide +kernel))
theorem qw_420 : Cond.methodLink RL 23 yX11_left ∈ wsL_law := tseg_5 (by decide +kernel) (List.mem_of_getElem? (i := 81) (by decide +kernel))
theorem qw_421 : Cond.instanceMethod yX11_left ∈ wsL_law := tseg_5 (by decide +kernel) (List.mem_of_getElem? (i := 82) (by decide +kernel))
theorem qw_422 : Cond.selects RX11 yX11_left yX11_left ∈ wsL_law := tseg_5 (by decide +kernel) (List.mem_of_getElem? (i := 83) (by decide +kernel))
theorem qw_423 : Cond.code yX11_left cX11_left 3 (some .long) ∈ wsL_law := tseg_5 (by decide +kernel) (List.mem_of_getElem? (i := 84) (by decide +kernel))
theorem qw_424 : Cond.methodLink RL 26 yX11_stopped ∈ wsL_law := tseg_5 (by decide +kernel) (List.mem_of_getElem? (i := 88) (by decide +kernel))
theorem qw_425 : Cond.instanceMethod yX11_stopped ∈ wsL_law := tseg_5 (by decide +kernel) (List.mem_of_getElem? (i := 89) (by decide +kernel))
theorem qw_426 : Cond.selects RX11 yX11_stopped yX11_stopped ∈ wsL_law := tseg_5 (by decide +kernel) (List.mem_of_getElem? (i := 90) (by decide +kernel))
theorem qw_427 : Cond.code yX11_stopped cX11_stopped 4 (some .long) ∈ wsL_law := tseg_5 (by decide +kernel) (List.mem_of_getElem? (i := 91) (by decide +kernel))
theorem qw_428 : Cond.methodLink RL 30 yX11_within ∈ wsL_law := tseg_5 (by decide +kernel) (List.mem_of_getElem? (i := 96) (by decide +kernel))
theorem qw_429 : Cond.instanceMethod yX11_within ∈ wsL_law := tseg_5 (by decide +kernel) (List.mem_of_getElem? (i := 97) (by decide +kernel))
theorem qw_430 : Cond.selects RX11 yX11_within yX11_within ∈ wsL_law := tseg_5 (by decide +kernel) (List.mem_of_getElem? (i := 98) (by decide +kernel))
theorem qw_431 : Cond.code yX11_within cX11_within 4 (some .long) ∈ wsL_law := tseg_5 (by decide +kernel) (List.mem_of_getElem? (i := 99) (by decide +kernel))
theorem qw_432 : Cond.methodLink RL 33 yX11_moves ∈ wsL_law := tseg_5 (by decide +kernel) (List.mem_of_getElem? (i := 115) (by decide +kernel))
theorem qw_433 : Cond.instanceMethod yX11_moves ∈ wsL_law := tseg_5 (by decide +kernel) (List.mem_of_getElem? (i := 116) (by decide +kernel))
theorem qw_434 : Cond.selects RX11 yX11_moves yX11_moves ∈ wsL_law := tseg_5 (by decide +kernel) (List.mem_of_getElem? (i := 117) (by decide +kernel))
theorem qw_435 : Cond.code yX11_moves cX11_moves 3 (some .long) ∈ wsL_law := tseg_5 (by decide +kernel) (List.mem_of_getElem? (i := 118) (by decide +kernel))
theorem dL_left_0 : decode cL_left 0 = .ok (.aload_n 3, 1) := by decide +kernel
theorem dL_left_1 : decode cL_left 1 = .ok (.iconst 0, 1) := by decide +kernel
theorem dL_left_2 : decode cL_left 2 = .ok (.aload_n 0, 1) := by decide +kernel
theorem dL_left_3 : decode cL_left 3 = .ok (.iload_n 1, 1) := by decide +kernel
theorem dL_left_4 : decode cL_left 4 = .ok (.iload_n 2, 1) := by decide +kernel
theorem dL_left_5 : decode cL_left 5 = .ok (.invokevirtual 23, 3) := by decide +kernel
theorem dL_left_12 : decode cL_left 12 = .ok (.astore 4, 2) := by decide +kernel
theorem dL_left_14 : decode cL_left 14 = .ok (.iconst 1, 1) := by decide +kernel
theorem dL_left_15 : decode cL_left 15 = .ok (.ireturn, 1) := by decide +kernel
theorem dL_moves_0 : decode cL_moves 0 = .ok (.aload_n 3, 1) := by decide +kernel
theorem dL_moves_1 : decode cL_moves 1 = .ok (.iconst 0, 1) := by decide +kernel
theorem dL_moves_2 : decode cL_moves 2 = .ok (.aload_n 0, 1) := by decide +kernel
theorem dL_moves_3 : decode cL_moves 3 = .ok (.iload_n 1, 1) := by decide +kernel
theorem dL_moves_4 : decode cL_moves 4 = .ok (.iload_n 2, 1) := by decide +kernel
theorem dL_moves_5 : decode cL_moves 5 = .ok (.invokevirtual 33, 3) := by decide +kernel
theorem dL_moves_12 : decode cL_moves 12 = .ok (.astore 4, 2) := by decide +kernel
theorem dL_moves_14 : decode cL_moves 14 = .ok (.iconst 1, 1) := by decide +kernel
theorem dL_moves_15 : decode cL_moves 15 = .ok (.ireturn, 1) := by decide +kernel
theorem dL_node_0 : decode cL_node 0 = .ok (.aload_n 3, 1) := by decide +kernel
theorem dL_node_1 : decode cL_node 1 = .ok (.iconst 0, 1) := by decide +kernel
theorem dL_node_2 : decode cL_node 2 = .ok (.aload_n 0, 1) := by decide +kernel
theorem dL_node_3 : decode cL_node 3 = .ok (.iload_n 1, 1) := by decide +kernel
theorem dL_node_4 : decode cL_node 4 = .ok (.iload_n 2, 1) := by decide +kernel
theorem dL_node_5 : decode cL_node 5 = .ok (.invokevirtual 7, 3) := by decide +kernel
theorem dL_node_13 : decode cL_node 13 = .ok (.astore 4, 2) := by decide +kernel
theorem dL_node_15 : decode cL_node 15 = .ok (.iconst 1, 1) := by decide +kernel
theorem dL_node_16 : decode cL_node 16 = .ok (.ireturn, 1) := by decide +kernel
theorem dL_stopped_0 : decode cL_stopped 0 = .ok (.aload 4, 2) := by decide +kernel
theorem dL_stopped_2 : decode cL_stopped 2 = .ok (.iconst 0, 1) := by decide +kernel
theorem dL_stopped_3 : decode cL_stopped 3 = .ok (.aload_n 0, 1) := by decide +kernel
theorem dL_stopped_4 : decode cL_stopped 4 = .ok (.iload_n 1, 1) := by decide +kernel
theorem dL_stopped_5 : decode cL_stopped 5 = .ok (.iload_n 2, 1) := by decide +kernel
theorem dL_stopped_6 : decode cL_stopped 6 = .ok (.iload_n 3, 1) := by decide +kernel
theorem dL_stopped_7 : decode cL_stopped 7 = .ok (.invokevirtual 26, 3) := by decide +kernel
theorem dL_stopped_14 : decode cL_stopped 14 = .ok (.astore 5, 2) := by decide +kernel
theorem dL_stopped_16 : decode cL_stopped 16 = .ok (.iconst 1, 1) := by decide +kernel
theorem dL_stopped_17 : decode cL_stopped 17 = .ok (.ireturn, 1) := by decide +kernel
theorem dL_way_0 : decode cL_way 0 = .ok (.aload 4, 2) := by decide +kernel
theorem dL_way_2 : decode cL_way 2 = .ok (.iconst 0, 1) := by decide +kernel
theorem dL_way_3 : decode cL_way 3 = .ok (.aload_n 0, 1) := by decide +kernel
theorem dL_way_4 : decode cL_way 4 = .ok (.iload_n 1, 1) := by decide +kernel
theorem dL_way_5 : decode cL_way 5 = .ok (.iload_n 2, 1) := by decide +kernel
theorem dL_way_6 : decode cL_way 6 = .ok (.iload_n 3, 1) := by decide +kernel
theorem dL_way_7 : decode cL_way 7 = .ok (.invokevirtual 15, 3) := by decide +kernel
theorem dL_way_15 : decode cL_way 15 = .ok (.astore 5, 2) := by decide +kernel
theorem dL_way_17 : decode cL_way 17 = .ok (.iconst 1, 1) := by decide +kernel
theorem dL_way_18 : decode cL_way 18 = .ok (.ireturn, 1) := by decide +kernel
theorem dL_within_0 : decode cL_within 0 = .ok (.aload 4, 2) := by decide +kernel
theorem dL_within_2 : decode cL_within 2 = .ok (.iconst 0, 1) := by decide +kernel
theorem dL_within_3 : decode cL_within 3 = .ok (.aload_n 0, 1) := by decide +kernel
theorem dL_within_4 : decode cL_within 4 = .ok (.iload_n 1, 1) := by decide +kernel
theorem dL_within_5 : decode cL_within 5 = .ok (.iload_n 2, 1) := by decide +kernel
theorem dL_within_6 : decode cL_within 6 = .ok (.iload_n 3, 1) := by decide +kernel
theorem dL_within_7 : decode cL_within 7 = .ok (.invokevirtual 30, 3) := by decide +kernel
theorem dL_within_14 : decode cL_within 14 = .ok (.astore 5, 2) := by decide +kernel
theorem dL_within_16 : decode cL_within 16 = .ok (.iconst 1, 1) := by decide +kernel
theorem dL_within_17 : decode cL_within 17 = .ok (.ireturn, 1) := by decide +kernel
theorem dL_worth_0 : decode cL_worth 0 = .ok (.aload_n 3, 1) := by decide +kernel
theorem dL_worth_1 : decode cL_worth 1 = .ok (.iconst 0, 1) := by decide +kernel
theorem dL_worth_2 : decode cL_worth 2 = .ok (.aload_n 0, 1) := by decide +kernel
theorem dL_worth_3 : decode cL_worth 3 = .ok (.iload_n 1, 1) := by decide +kernel
theorem dL_worth_4 : decode cL_worth 4 = .ok (.iload_n 2, 1) := by decide +kernel
theorem dL_worth_5 : decode cL_worth 5 = .ok (.invokevirtual 19, 3) := by decide +kernel
theorem dL_worth_12 : decode cL_worth 12 = .ok (.astore 4, 2) := by decide +kernel
theorem dL_worth_14 : decode cL_worth 14 = .ok (.iconst 1, 1) := by decide +kernel
theorem dL_worth_15 : decode cL_worth 15 = .ok (.ireturn, 1) := by decide +kernel
set_option maxHeartbeats 4000000 in
set_option maxRecDepth 100000 in
theorem c_L_node (l : Launch) (hst : l.stackTraces = false) (D : va_G) (g : Nat → ClassId) (sz : Nat) (x : Nat) (p0 : Int32) (p1 : Int32) (oa : Nat) (tp : Nat) (n : Nat) (dr : Nat) (x_images : Nat) (x_kept : Nat) (rd : Nat) (st : Nat) (tl : Nat) (rg : Nat) (sv : Nat) (oc : Nat) (x_tried : Nat) (lf : Nat) (x_stoppedWays : Nat) (x_stoppedWorth : Nat) (x_withinWorth : Nat) (n_kind : Nat) (n_pay : Nat) (n_name : Nat) (n_ways : Nat) (n_held : Nat) (n_targets : Nat) (n_weights : Nat) : vx_Met l yL_node (.codeWith yL_node cL_node 5 (some .int) [(0, 10, 13, 13)] :: wsL_law) ({ frames := 7, cells := 1, slots := 6, locals := 112 }) (va_Pc [.ref x, .int p0, .int p1, .ref oa] (fun U => U.heap.size = sz ∧ va_P D vwCl [(x, .inr (11, [.ref tp, .ref n, .ref dr, .ref x_images, .ref x_kept, .ref rd, .ref st, .ref tl, .ref rg, .ref sv, .ref oc, .ref x_tried, .ref lf, .int 0, .ref x_stoppedWays, .ref x_stoppedWorth, .int 0, .ref x_withinWorth])), (n, .inr (2, [.int 0, .ref n_kind, .ref n_pay, .ref n_name, .ref n_ways, .ref n_held, .ref n_targets, .ref n_weights]))] U.heap ∧ va_K D vwCl (TY g) U ∧ va_D (fun _ => True) [(x, .inr (11, [.ref tp, .ref n, .ref dr, .ref x_images, .ref x_kept, .ref rd, .ref st, .ref tl, .ref rg, .ref sv, .ref oc, .ref x_tried, .ref lf, .int 0, .ref x_stoppedWays, .ref x_stoppedWorth, .int 0, .ref x_withinWorth])), (n, .inr (2, [.int 0, .ref n_kind, .ref n_pay, .ref n_name, .ref n_ways, .ref n_held, .ref n_targets, .ref n_weights]))] ∧ ZT (va_A [(x, .inr (11, [.ref tp, .ref n, .ref dr, .ref x_images, .ref x_kept, .ref rd, .ref st, .ref tl, .ref rg, .ref sv, .ref oc, .ref x_tried, .ref lf, .int 0, .ref x_stoppedWays, .ref x_stoppedWorth, .int 0, .ref x_withinWorth])), (n, .inr (2, [.int 0, .ref n_kind, .ref n_pay, .ref n_name, .ref n_ways, .ref n_held, .ref n_targets, .ref n_weights]))] sz) U U.heap)) (va_Qi (fun r (_ : Unit) => r = 1) (fun _ _ => True) (va_A [(x, .inr (11, [.ref tp, .ref n, .ref dr, .ref x_images, .ref x_kept, .ref rd, .ref st, .ref tl, .ref rg, .ref sv, .ref oc, .ref x_tried, .ref lf, .int 0, .ref x_stoppedWays, .ref x_stoppedWorth, .int 0, .ref x_withinWorth])), (n, .inr (2, [.int 0, .ref n_kind, .ref n_pay, .ref n_name, .ref n_ways, .ref n_held, .ref n_targets, .ref n_weights]))] sz)) (vx_X (fun (_ : Unit) => False) (fun _ _ _ => True) (va_A [(x, .inr (11, [.ref tp, .ref n, .ref dr, .ref x_images, .ref x_kept, .ref rd, .ref st, .ref tl, .ref rg, .ref sv, .ref oc, .ref x_tried, .ref lf, .int 0, .ref x_stoppedWays, .ref x_stoppedWorth, .int 0, .ref x_withinWorth])), (n, .inr (2, [.int 0, .ref n_kind, .ref n_pay, .ref n_name, .ref n_ways, .ref n_held, .ref n_targets, .ref n_weights]))] sz)) 1 6 (va_A [(x, .inr (11, [.ref tp, .ref n, .ref dr, .ref x_images, .ref x_kept, .ref rd, .ref st, .ref tl, .ref rg, .ref sv, .ref oc, .ref x_tried, .ref lf, .int 0, .ref x_stoppedWays, .ref x_stoppedWorth, .int 0, .ref x_withinWorth])), (n, .inr (2, [.int 0, .ref n_kind, .ref n_pay, .ref n_name, .ref n_ways, .ref n_held, .ref n_targets, .ref n_weights]))] sz) := by
  refine vx_ofWH (cc := cL_node) (maxL := 5) (ret := (some .int)) (hh := [(0, 10, 13, 13)]) (by decide) rfl ?_
  intro p e s m args below meth c s₁ B hml hv
  obtain ⟨rfl, hsz, hP, hK, hD0, hZ⟩ := hv
  have hx := B.exec
  have hb := B.bytes
  have hr := B.returns
  have hts0 := atoms_spec (ws := (.codeWith yL_node cL_node 5 (some .int) [(0, 10, 13, 13)] :: wsL_law)) B.pre
  have hts : ∀ w ∈ wsL_law, w.before _ s = true := fun w h => hts0 w (List.mem_cons_of_mem _ h)
  have hown : s.vm.findClass RL = some m.cls := findClass_of_methodNamed B.named
  have hlocks := B.notSynchronized
  subst hsz
  have hD := hD0.self (sz := s.heap.size)
  generalize hAe : va_A [(x, .inr (11, [.ref tp, .ref n, .ref dr, .ref x_images, .ref x_kept, .ref rd, .ref st, .ref tl, .ref rg, .ref sv, .ref oc, .ref x_tried, .ref lf, .int 0, .ref x_stoppedWays, .ref x_stoppedWorth, .int 0, .ref x_withinWorth])), (n, .inr (2, [.int 0, .ref n_kind, .ref n_pay, .ref n_name, .ref n_ways, .ref n_held, .ref n_targets, .ref n_weights]))] s.heap.size = A at hD hZ ⊢
  have hA : ∀ q : Nat, s.heap.size ≤ q → A q := fun q h => by rw [← hAe]; exact Or.inr h
  have hS : va_S A s.heap s.heap [] := va_S.rf
  have hP : va_P D vwCl [(x, .inr (11, [.ref tp, .ref n, .ref dr, .ref x_images, .ref x_kept, .ref rd, .ref st, .ref tl, .ref rg, .ref sv, .ref oc, .ref x_tried, .ref lf, .int 0, .ref x_stoppedWays, .ref x_stoppedWorth, .int 0, .ref x_withinWorth])), (n, .inr (2, [.int 0, .ref n_kind, .ref n_pay, .ref n_name, .ref n_ways, .ref n_held, .ref n_targets, .ref n_weights]))] s.heap := hP
  have hl := lv_entry ([.ref x, .int p0, .int p1, .ref oa]) (n := 5) (Nat.le_of_ble_eq_true rfl)
  rw [lg_entry_eq]
  generalize (lg_sl ([.ref x, .int p0, .int p1, .ref oa]) ++ List.replicate (5 - (lg_sl ([.ref x, .int p0, .int p1, .ref oa])).length) Slot.unset).toArray = ls at hl ⊢
  have hl : lv_has ls 5 [(0, .ref x), (1, .int p0), (2, .int p1), (3, .ref oa)] := hl
  have htab := vx_table (x := yL_node) B (hts0 _ List.mem_cons_self)
  refine lv_aload_n hx hb dL_node_0 rfl (lv_at hl 3 rfl) ?_
  refine lv_iconst (v := 0) hx hb dL_node_1 (by decide) ?_
  refine lv_aload_n hx hb dL_node_2 rfl (lv_at hl 0 rfl) ?_
  refine lv_iload_n hx hb dL_node_3 rfl (lv_at hl 1 rfl) ?_
  refine lv_iload_n hx hb dL_node_4 rfl (lv_at hl 2 rfl) ?_
  have hPc := hP.sub (ws' := [(x, .inr (11, [.ref tp, .ref n, .ref dr, .ref x_images, .ref x_kept, .ref rd, .ref st, .ref tl, .ref rg, .ref sv, .ref oc, .ref x_tried, .ref lf, .int 0, .ref x_stoppedWays, .ref x_stoppedWorth, .int 0, .ref x_withinWorth])), (n, .inr (2, [.int 0, .ref n_kind, .ref n_pay, .ref n_name, .ref n_ways, .ref n_held, .ref n_targets, .ref n_weights]))]) [0, 1] rfl
  have hDc := hD.sub (ws' := [(x, .inr (11, [.ref tp, .ref n, .ref dr, .ref x_images, .ref x_kept, .ref rd, .ref st, .ref tl, .ref rg, .ref sv, .ref oc, .ref x_tried, .ref lf, .int 0, .ref x_stoppedWays, .ref x_stoppedWorth, .int 0, .ref x_withinWorth])), (n, .inr (2, [.int 0, .ref n_kind, .ref n_pay, .ref n_name, .ref n_ways, .ref n_held, .ref n_targets, .ref n_weights]))]) [0, 1] (by decide) rfl
  have hFc := va_free (wc := [(x, .inr (11, [.ref tp, .ref n, .ref dr, .ref x_images, .ref x_kept, .ref rd, .ref st, .ref tl, .ref rg, .ref sv, .ref oc, .ref x_tried, .ref lf, .int 0, .ref x_stoppedWays, .ref x_stoppedWorth, .int 0, .ref x_withinWorth])), (n, .inr (2, [.int 0, .ref n_kind, .ref n_pay, .ref n_name, .ref n_ways, .ref n_held, .ref n_targets, .ref n_weights]))]) hD hS hA [0, 1] rfl
  refine vx_calli (vx_runV (As := [.int p0, .int p1]) (rest := [.int 0, .ref oa]) ⟨hx, hb, hml, hown, hts⟩ (c_X11_node l hst D g s.heap.size x p0 p1 tp n dr x_images x_kept rd st tl rg sv oc x_tried lf x_stoppedWays x_stoppedWorth x_withinWorth n_kind n_pay n_name n_ways n_held n_targets n_weights) (cwV 2 hts (tz_gV qw_407 qw_408 qw_409 qw_165 qw_410) rfl rfl rfl (by decide +kernel) ⟨Nat.le_of_ble_eq_true rfl, Nat.le_of_ble_eq_true rfl⟩) ⟨tz_blX, va_recv hK hPc (ci := 11) (q0 := 0) rfl rfl, tz_preX hPc hK hDc (hZ.kept hS hFc)⟩ rfl rfl hl.1 rfl (lv_room (Nat.le_of_ble_eq_true rfl)) dL_node_5 ⟨Nat.le_of_ble_eq_true rfl, Nat.le_of_ble_eq_true rfl⟩) hS (fun q _ h => hFc q h) hFc (fun q _ h => hFc q h) (fun E ce q9 u t H1 locs1 ht hvm hpx hBX hz1 hk1 hS hce hcv hcl => ?_) (fun r u t H1 locs1 ht hvm hw hB hz1 hk1 hS => hw.elim)
  subst hBX
  refine vx_catch hown [] _ [] htab (fun _ h => nomatch h) (by decide) (by decide) (hts (Cond.classLink RL 13 "java/util/NoSuchElementException") qw_411) (va_Nw.use rfl hZ.2.2.2.2.2) hce hcv hcl ?_
  refine W.eq (g2 := F0 m 13 ls [.ref q9]) rfl ?_
  refine lv_astore (lv' := [(4, .ref q9), (0, .ref x), (1, .int p0), (2, .int p1), (3, .ref oa)]) hx hb dL_node_13 hl (by decide) rfl (fun ls hl => ?_)
  refine lv_iconst (v := 1) hx hb dL_node_15 (by decide) ?_
  exact vx_ret (W.iret (v := 1) hx hb hr (fun t ht hW => ⟨⟨1, (), rfl, rfl, trivial⟩, hS.F ht⟩) hS.2.2 dL_node_16)
set_option maxHeartbeats 4000000 in
set_option maxRecDepth 100000 in
theorem c_L_way (l : Launch) (hst : l.stackTraces = false) (D : va_G) (g : Nat → ClassId) (sz : Nat) (x : Nat) (p0 : Int32) (p1 : Int32) (p2 : Int32) (oa : Nat) (tp : Nat) (n : Nat) (dr : Nat) (x_images : Nat) (x_kept : Nat) (rd : Nat) (st : Nat) (tl : Nat) (rg : Nat) (sv : Nat) (oc : Nat) (x_tried : Nat) (lf : Nat) (x_stoppedWays : Nat) (x_stoppedWorth : Nat) (x_withinWorth : Nat) (n_kind : Nat) (n_pay : Nat) (n_name : Nat) (n_ways : Nat) (n_held : Nat) (n_targets : Nat) (n_weights : Nat) : vx_Met l yL_way (.codeWith yL_way cL_way 6 (some .int) [(0, 12, 15, 13)] :: wsL_law) ({ frames := 7, cells := 1, slots := 6, locals := 113 }) (va_Pc [.ref x, .int p0, .int p1, .int p2, .ref oa] (fun U => U.heap.size = sz ∧ va_P D vwCl [(x, .inr (11, [.ref tp, .ref n, .ref dr, .ref x_images, .ref x_kept, .ref rd, .ref st, .ref tl, .ref rg, .ref sv, .ref oc, .ref x_tried, .ref lf, .int 0, .ref x_stoppedWays, .ref x_stoppedWorth, .int 0, .ref x_withinWorth])), (n, .inr (2, [.int 0, .ref n_kind, .ref n_pay, .ref n_name, .ref n_ways, .ref n_held, .ref n_targets, .ref n_weights]))] U.heap ∧ va_K D vwCl (TY g) U ∧ va_D (fun _ => True) [(x, .inr (11, [.ref tp, .ref n, .ref dr, .ref x_images, .ref x_kept, .ref rd, .ref st, .ref tl, .ref rg, .ref sv, .ref oc, .ref x_tried, .ref lf, .int 0, .ref x_stoppedWays, .ref x_stoppedWorth, .int 0, .ref x_withinWorth])), (n, .inr (2, [.int 0, .ref n_kind, .ref n_pay, .ref n_name, .ref n_ways, .ref n_held, .ref n_targets, .ref n_weights]))] ∧ ZT (va_A [(x, .inr (11, [.ref tp, .ref n, .ref dr, .ref x_images, .ref x_kept, .ref rd, .ref st, .ref tl, .ref rg, .ref sv, .ref oc, .ref x_tried, .ref lf, .int 0, .ref x_stoppedWays, .ref x_stoppedWorth, .int 0, .ref x_withinWorth])), (n, .inr (2, [.int 0, .ref n_kind, .ref n_pay, .ref n_name, .ref n_ways, .ref n_held, .ref n_targets, .ref n_weights]))] sz) U U.heap)) (va_Qi (fun r (_ : Unit) => r = 1) (fun _ _ => True) (va_A [(x, .inr (11, [.ref tp, .ref n, .ref dr, .ref x_images, .ref x_kept, .ref rd, .ref st, .ref tl, .ref rg, .ref sv, .ref oc, .ref x_tried, .ref lf, .int 0, .ref x_stoppedWays, .ref x_stoppedWorth, .int 0, .ref x_withinWorth])), (n, .inr (2, [.int 0, .ref n_kind, .ref n_pay, .ref n_name, .ref n_ways, .ref n_held, .ref n_targets, .ref n_weights]))] sz)) (vx_X (fun (_ : Unit) => False) (fun _ _ _ => True) (va_A [(x, .inr (11, [.ref tp, .ref n, .ref dr, .ref x_images, .ref x_kept, .ref rd, .ref st, .ref tl, .ref rg, .ref sv, .ref oc, .ref x_tried, .ref lf, .int 0, .ref x_stoppedWays, .ref x_stoppedWorth, .int 0, .ref x_withinWorth])), (n, .inr (2, [.int 0, .ref n_kind, .ref n_pay, .ref n_name, .ref n_ways, .ref n_held, .ref n_targets, .ref n_weights]))] sz)) 1 6 (va_A [(x, .inr (11, [.ref tp, .ref n, .ref dr, .ref x_images, .ref x_kept, .ref rd, .ref st, .ref tl, .ref rg, .ref sv, .ref oc, .ref x_tried, .ref lf, .int 0, .ref x_stoppedWays, .ref x_stoppedWorth, .int 0, .ref x_withinWorth])), (n, .inr (2, [.int 0, .ref n_kind, .ref n_pay, .ref n_name, .ref n_ways, .ref n_held, .ref n_targets, .ref n_weights]))] sz) := by
  refine vx_ofWH (cc := cL_way) (maxL := 6) (ret := (some .int)) (hh := [(0, 12, 15, 13)]) (by decide) rfl ?_
  intro p e s m args below meth c s₁ B hml hv
  obtain ⟨rfl, hsz, hP, hK, hD0, hZ⟩ := hv
  have hx := B.exec
  have hb := B.bytes
  have hr := B.returns
  have hts0 := atoms_spec (ws := (.codeWith yL_way cL_way 6 (some .int) [(0, 12, 15, 13)] :: wsL_law)) B.pre
  have hts : ∀ w ∈ wsL_law, w.before _ s = true := fun w h => hts0 w (List.mem_cons_of_mem _ h)
  have hown : s.vm.findClass RL = some m.cls := findClass_of_methodNamed B.named
  have hlocks := B.notSynchronized
  subst hsz
  have hD := hD0.self (sz := s.heap.size)
  generalize hAe : va_A [(x, .inr (11, [.ref tp, .ref n, .ref dr, .ref x_images, .ref x_kept, .ref rd, .ref st, .ref tl, .ref rg, .ref sv, .ref oc, .ref x_tried, .ref lf, .int 0, .ref x_stoppedWays, .ref x_stoppedWorth, .int 0, .ref x_withinWorth])), (n, .inr (2, [.int 0, .ref n_kind, .ref n_pay, .ref n_name, .ref n_ways, .ref n_held, .ref n_targets, .ref n_weights]))] s.heap.size = A at hD hZ ⊢
  have hA : ∀ q : Nat, s.heap.size ≤ q → A q := fun q h => by rw [← hAe]; exact Or.inr h
  have hS : va_S A s.heap s.heap [] := va_S.rf
  have hP : va_P D vwCl [(x, .inr (11, [.ref tp, .ref n, .ref dr, .ref x_images, .ref x_kept, .ref rd, .ref st, .ref tl, .ref rg, .ref sv, .ref oc, .ref x_tried, .ref lf, .int 0, .ref x_stoppedWays, .ref x_stoppedWorth, .int 0, .ref x_withinWorth])), (n, .inr (2, [.int 0, .ref n_kind, .ref n_pay, .ref n_name, .ref n_ways, .ref n_held, .ref n_targets, .ref n_weights]))] s.heap := hP
  have hl := lv_entry ([.ref x, .int p0, .int p1, .int p2, .ref oa]) (n := 6) (Nat.le_of_ble_eq_true rfl)
  rw [lg_entry_eq]
  generalize (lg_sl ([.ref x, .int p0, .int p1, .int p2, .ref oa]) ++ List.replicate (6 - (lg_sl ([.ref x, .int p0, .int p1, .int p2, .ref oa])).length) Slot.unset).toArray = ls at hl ⊢
  have hl : lv_has ls 6 [(0, .ref x), (1, .int p0), (2, .int p1), (3, .int p2), (4, .ref oa)] := hl
  have htab := vx_table (x := yL_way) B (hts0 _ List.mem_cons_self)
  refine lv_aload hx hb dL_way_0 (lv_at hl 4 rfl) ?_
  refine lv_iconst (v := 0) hx hb dL_way_2 (by decide) ?_
  refine lv_aload_n hx hb dL_way_3 rfl (lv_at hl 0 rfl) ?_
  refine lv_iload_n hx hb dL_way_4 rfl (lv_at hl 1 rfl) ?_
  refine lv_iload_n hx hb dL_way_5 rfl (lv_at hl 2 rfl) ?_
  refine lv_iload_n hx hb dL_way_6 rfl (lv_at hl 3 rfl) ?_
  have hPc := hP.sub (ws' := [(x, .inr (11, [.ref tp, .ref n, .ref dr, .ref x_images, .ref x_kept, .ref rd, .ref st, .ref tl, .ref rg, .ref sv, .ref oc, .ref x_tried, .ref lf, .int 0, .ref x_stoppedWays, .ref x_stoppedWorth, .int 0, .ref x_withinWorth])), (n, .inr (2, [.int 0, .ref n_kind, .ref n_pay, .ref n_name, .ref n_ways, .ref n_held, .ref n_targets, .ref n_weights]))]) [0, 1] rfl
  have hDc := hD.sub (ws' := [(x, .inr (11, [.ref tp, .ref n, .ref dr, .ref x_images, .ref x_kept, .ref rd, .ref st, .ref tl, .ref rg, .ref sv, .ref oc, .ref x_tried, .ref lf, .int 0, .ref x_stoppedWays, .ref x_stoppedWorth, .int 0, .ref x_withinWorth])), (n, .inr (2, [.int 0, .ref n_kind, .ref n_pay, .ref n_name, .ref n_ways, .ref n_held, .ref n_targets, .ref n_weights]))]) [0, 1] (by decide) rfl
  have hFc := va_free (wc := [(x, .inr (11, [.ref tp, .ref n, .ref dr, .ref x_images, .ref x_kept, .ref rd, .ref st, .ref tl, .ref rg, .ref sv, .ref oc, .ref x_tried, .ref lf, .int 0, .ref x_stoppedWays, .ref x_stoppedWorth, .int 0, .ref x_withinWorth])), (n, .inr (2, [.int 0, .ref n_kind, .ref n_pay, .ref n_name, .ref n_ways, .ref n_held, .ref n_targets, .ref n_weights]))]) hD hS hA [0, 1] rfl
  refine vx_calli (vx_runV (As := [.int p0, .int p1, .int p2]) (rest := [.int 0, .ref oa]) ⟨hx, hb, hml, hown, hts⟩ (c_X11_way l hst D g s.heap.size x p0 p1 p2 tp n dr x_images x_kept rd st tl rg sv oc x_tried lf x_stoppedWays x_stoppedWorth x_withinWorth n_kind n_pay n_name n_ways n_held n_targets n_weights) (cwV 3 hts (tz_gV qw_412 qw_413 qw_414 qw_165 qw_415) rfl rfl rfl (by decide +kernel) ⟨Nat.le_of_ble_eq_true rfl, Nat.le_of_ble_eq_true rfl⟩) ⟨tz_blX, va_recv hK hPc (ci := 11) (q0 := 0) rfl rfl, tz_preX hPc hK hDc (hZ.kept hS hFc)⟩ rfl rfl hl.1 rfl (lv_room (Nat.le_of_ble_eq_true rfl)) dL_way_7 ⟨Nat.le_of_ble_eq_true rfl, Nat.le_of_ble_eq_true rfl⟩) hS (fun q _ h => hFc q h) hFc (fun q _ h => hFc q h) (fun E ce q9 u t H1 locs1 ht hvm hpx hBX hz1 hk1 hS hce hcv hcl => ?_) (fun r u t H1 locs1 ht hvm hw hB hz1 hk1 hS => hw.elim)
  subst hBX
  refine vx_catch hown [] _ [] htab (fun _ h => nomatch h) (by decide) (by decide) (hts (Cond.classLink RL 13 "java/util/NoSuchElementException") qw_411) (va_Nw.use rfl hZ.2.2.2.2.2) hce hcv hcl ?_
  refine W.eq (g2 := F0 m 15 ls [.ref q9]) rfl ?_
  refine lv_astore (lv' := [(5, .ref q9), (0, .ref x), (1, .int p0), (2, .int p1), (3, .int p2), (4, .ref oa)]) hx hb dL_way_15 hl (by decide) rfl (fun ls hl => ?_)
  refine lv_iconst (v := 1) hx hb dL_way_17 (by decide) ?_
  exact vx_ret (W.iret (v := 1) hx hb hr (fun t ht hW => ⟨⟨1, (), rfl, rfl, trivial⟩, hS.F ht⟩) hS.2.2 dL_way_18)
set_option maxHeartbeats 4000000 in
set_option maxRecDepth 100000 in
theorem c_L_worth (l : Launch) (hst : l.stackTraces = false) (D : va_G) (g : Nat → ClassId) (sz : Nat) (x : Nat) (p0 : Int32) (p1 : Int32) (oa : Nat) (tp : Nat) (n : Nat) (dr : Nat) (x_images : Nat) (x_kept : Nat) (rd : Nat) (st : Nat) (tl : Nat) (rg : Nat) (sv : Nat) (oc : Nat) (x_tried : Nat) (lf : Nat) (x_stoppedWays : Nat) (x_stoppedWorth : Nat) (x_withinWorth : Nat) (n_kind : Nat) (n_pay : Nat) (n_name : Nat) (n_ways : Nat) (n_held : Nat) (n_targets : Nat) (n_weights : Nat) : vx_Met l yL_worth (.codeWith yL_worth cL_worth 5 (some .int) [(0, 9, 12, 13)] :: wsL_law) ({ frames := 7, cells := 1, slots := 6, locals := 112 }) (va_Pc [.ref x, .int p0, .int p1, .ref oa] (fun U => U.heap.size = sz ∧ va_P D vwCl [(x, .inr (11, [.ref tp, .ref n, .ref dr, .ref x_images, .ref x_kept, .ref rd, .ref st, .ref tl, .ref rg, .ref sv, .ref oc, .ref x_tried, .ref lf, .int 0, .ref x_stoppedWays, .ref x_stoppedWorth, .int 0, .ref x_withinWorth])), (n, .inr (2, [.int 0, .ref n_kind, .ref n_pay, .ref n_name, .ref n_ways, .ref n_held, .ref n_targets, .ref n_weights]))] U.heap ∧ va_K D vwCl (TY g) U ∧ va_D (fun _ => True) [(x, .inr (11, [.ref tp, .ref n, .ref dr, .ref x_images, .ref x_kept, .ref rd, .ref st, .ref tl, .ref rg, .ref sv, .ref oc, .ref x_tried, .ref lf, .int 0, .ref x_stoppedWays, .ref x_stoppedWorth, .int 0, .ref x_withinWorth])), (n, .inr (2, [.int 0, .ref n_kind, .ref n_pay, .ref n_name, .ref n_ways, .ref n_held, .ref n_targets, .ref n_weights]))] ∧ ZT (va_A [(x, .inr (11, [.ref tp, .ref n, .ref dr, .ref x_images, .ref x_kept, .ref rd, .ref st, .ref tl, .ref rg, .ref sv, .ref oc, .ref x_tried, .ref lf, .int 0, .ref x_stoppedWays, .ref x_stoppedWorth, .int 0, .ref x_withinWorth])), (n, .inr (2, [.int 0, .ref n_kind, .ref n_pay, .ref n_name, .ref n_ways, .ref n_held, .ref n_targets, .ref n_weights]))] sz) U U.heap)) (va_Qi (fun r (_ : Unit) => r = 1) (fun _ _ => True) (va_A [(x, .inr (11, [.ref tp, .ref n, .ref dr, .ref x_images, .ref x_kept, .ref rd, .ref st, .ref tl, .ref rg, .ref sv, .ref oc, .ref x_tried, .ref lf, .int 0, .ref x_stoppedWays, .ref x_stoppedWorth, .int 0, .ref x_withinWorth])), (n, .inr (2, [.int 0, .ref n_kind, .ref n_pay, .ref n_name, .ref n_ways, .ref n_held, .ref n_targets, .ref n_weights]))] sz)) (vx_X (fun (_ : Unit) => False) (fun _ _ _ => True) (va_A [(x, .inr (11, [.ref tp, .ref n, .ref dr, .ref x_images, .ref x_kept, .ref rd, .ref st, .ref tl, .ref rg, .ref sv, .ref oc, .ref x_tried, .ref lf, .int 0, .ref x_stoppedWays, .ref x_stoppedWorth, .int 0, .ref x_withinWorth])), (n, .inr (2, [.int 0, .ref n_kind, .ref n_pay, .ref n_name, .ref n_ways, .ref n_held, .ref n_targets, .ref n_weights]))] sz)) 1 6 (va_A [(x, .inr (11, [.ref tp, .ref n, .ref dr, .ref x_images, .ref x_kept, .ref rd, .ref st, .ref tl, .ref rg, .ref sv, .ref oc, .ref x_tried, .ref lf, .int 0, .ref x_stoppedWays, .ref x_stoppedWorth, .int 0, .ref x_withinWorth])), (n, .inr (2, [.int 0, .ref n_kind, .ref n_pay, .ref n_name, .ref n_ways, .ref n_held, .ref n_targets, .ref n_weights]))] sz) := by
  refine vx_ofWH (cc := cL_worth) (maxL := 5) (ret := (some .int)) (hh := [(0, 9, 12, 13)]) (by decide) rfl ?_
  intro p e s m args below meth c s₁ B hml hv
  obtain ⟨rfl, hsz, hP, hK, hD0, hZ⟩ := hv
  have hx := B.exec
  have hb := B.bytes
  have hr := B.returns
  have hts0 := atoms_spec (ws := (.codeWith yL_worth cL_worth 5 (some .int) [(0, 9, 12, 13)] :: wsL_law)) B.pre
  have hts : ∀ w ∈ wsL_law, w.before _ s = true := fun w h => hts0 w (List.mem_cons_of_mem _ h)
  have hown : s.vm.findClass RL = some m.cls := findClass_of_methodNamed B.named
  have hlocks := B.notSynchronized
  subst hsz
  have hD := hD0.self (sz := s.heap.size)
  generalize hAe : va_A [(x, .inr (11, [.ref tp, .ref n, .ref dr, .ref x_images, .ref x_kept, .ref rd, .ref st, .ref tl, .ref rg, .ref sv, .ref oc, .ref x_tried, .ref lf, .int 0, .ref x_stoppedWays, .ref x_stoppedWorth, .int 0, .ref x_withinWorth])), (n, .inr (2, [.int 0, .ref n_kind, .ref n_pay, .ref n_name, .ref n_ways, .ref n_held, .ref n_targets, .ref n_weights]))] s.heap.size = A at hD hZ ⊢
  have hA : ∀ q : Nat, s.heap.size ≤ q → A q := fun q h => by rw [← hAe]; exact Or.inr h
  have hS : va_S A s.heap s.heap [] := va_S.rf
  have hP : va_P D vwCl [(x, .inr (11, [.ref tp, .ref n, .ref dr, .ref x_images, .ref x_kept, .ref rd, .ref st, .ref tl, .ref rg, .ref sv, .ref oc, .ref x_tried, .ref lf, .int 0, .ref x_stoppedWays, .ref x_stoppedWorth, .int 0, .ref x_withinWorth])), (n, .inr (2, [.int 0, .ref n_kind, .ref n_pay, .ref n_name, .ref n_ways, .ref n_held, .ref n_targets, .ref n_weights]))] s.heap := hP
  have hl := lv_entry ([.ref x, .int p0, .int p1, .ref oa]) (n := 5) (Nat.le_of_ble_eq_true rfl)
  rw [lg_entry_eq]
  generalize (lg_sl ([.ref x, .int p0, .int p1, .ref oa]) ++ List.replicate (5 - (lg_sl ([.ref x, .int p0, .int p1, .ref oa])).length) Slot.unset).toArray = ls at hl ⊢
  have hl : lv_has ls 5 [(0, .ref x), (1, .int p0), (2, .int p1), (3, .ref oa)] := hl
  have htab := vx_table (x := yL_worth) B (hts0 _ List.mem_cons_self)
  refine lv_aload_n hx hb dL_worth_0 rfl (lv_at hl 3 rfl) ?_
  refine lv_iconst (v := 0) hx hb dL_worth_1 (by decide) ?_
  refine lv_aload_n hx hb dL_worth_2 rfl (lv_at hl 0 rfl) ?_
  refine lv_iload_n hx hb dL_worth_3 rfl (lv_at hl 1 rfl) ?_
  refine lv_iload_n hx hb dL_worth_4 rfl (lv_at hl 2 rfl) ?_
  have hPc := hP.sub (ws' := [(x, .inr (11, [.ref tp, .ref n, .ref dr, .ref x_images, .ref x_kept, .ref rd, .ref st, .ref tl, .ref rg, .ref sv, .ref oc, .ref x_tried, .ref lf, .int 0, .ref x_stoppedWays, .ref x_stoppedWorth, .int 0, .ref x_withinWorth])), (n, .inr (2, [.int 0, .ref n_kind, .ref n_pay, .ref n_name, .ref n_ways, .ref n_held, .ref n_targets, .ref n_weights]))]) [0, 1] rfl
  have hDc := hD.sub (ws' := [(x, .inr (11, [.ref tp, .ref n, .ref dr, .ref x_images, .ref x_kept, .ref rd, .ref st, .ref tl, .ref rg, .ref sv, .ref oc, .ref x_tried, .ref lf, .int 0, .ref x_stoppedWays, .ref x_stoppedWorth, .int 0, .ref x_withinWorth])), (n, .inr (2, [.int 0, .ref n_kind, .ref n_pay, .ref n_name, .ref n_ways, .ref n_held, .ref n_targets, .ref n_weights]))]) [0, 1] (by decide) rfl
  have hFc := va_free (wc := [(x, .inr (11, [.ref tp, .ref n, .ref dr, .ref x_images, .ref x_kept, .ref rd, .ref st, .ref tl, .ref rg, .ref sv, .ref oc, .ref x_tried, .ref lf, .int 0, .ref x_stoppedWays, .ref x_stoppedWorth, .int 0, .ref x_withinWorth])), (n, .inr (2, [.int 0, .ref n_kind, .ref n_pay, .ref n_name, .ref n_ways, .ref n_held, .ref n_targets, .ref n_weights]))]) hD hS hA [0, 1] rfl
  refine vx_calll (vx_runV (As := [.int p0, .int p1]) (rest := [.int 0, .ref oa]) ⟨hx, hb, hml, hown, hts⟩ (c_X11_worth l hst D g s.heap.size x p0 p1 tp n dr x_images x_kept rd st tl rg sv oc x_tried lf x_stoppedWays x_stoppedWorth x_withinWorth n_kind n_pay n_name n_ways n_held n_targets n_weights) (cwV 2 hts (tz_gV qw_416 qw_417 qw_418 qw_165 qw_419) rfl rfl rfl (by decide +kernel) ⟨Nat.le_of_ble_eq_true rfl, Nat.le_of_ble_eq_true rfl⟩) ⟨tz_blX, va_recv hK hPc (ci := 11) (q0 := 0) rfl rfl, tz_preX hPc hK hDc (hZ.kept hS hFc)⟩ rfl rfl hl.1 rfl (lv_room (Nat.le_of_ble_eq_true rfl)) dL_worth_5 ⟨Nat.le_of_ble_eq_true rfl, Nat.le_of_ble_eq_true rfl⟩) hS (fun q _ h => hFc q h) hFc (fun q _ h => hFc q h) (fun E ce q9 u t H1 locs1 ht hvm hpx hBX hz1 hk1 hS hce hcv hcl => ?_) (fun r u t H1 locs1 ht hvm hw hB hz1 hk1 hS => hw.elim)
  subst hBX
  refine vx_catch hown [] _ [] htab (fun _ h => nomatch h) (by decide) (by decide) (hts (Cond.classLink RL 13 "java/util/NoSuchElementException") qw_411) (va_Nw.use rfl hZ.2.2.2.2.2) hce hcv hcl ?_
  refine W.eq (g2 := F0 m 12 ls [.ref q9]) rfl ?_
  refine lv_astore (lv' := [(4, .ref q9), (0, .ref x), (1, .int p0), (2, .int p1), (3, .ref oa)]) hx hb dL_worth_12 hl (by decide) rfl (fun ls hl => ?_)
  refine lv_iconst (v := 1) hx hb dL_worth_14 (by decide) ?_
  exact vx_ret (W.iret (v := 1) hx hb hr (fun t ht hW => ⟨⟨1, (), rfl, rfl, trivial⟩, hS.F ht⟩) hS.2.2 dL_worth_15)
set_option maxHeartbeats 4000000 in
set_option maxRecDepth 100000 in
theorem c_L_left (l : Launch) (hst : l.stackTraces = false) (D : va_G) (g : Nat → ClassId) (sz : Nat) (x : Nat) (p0 : Int32) (p1 : Int32) (oa : Nat) (tp : Nat) (n : Nat) (dr : Nat) (x_images : Nat) (x_kept : Nat) (rd : Nat) (st : Nat) (tl : Nat) (rg : Nat) (sv : Nat) (oc : Nat) (x_tried : Nat) (lf : Nat) (x_stoppedWays : Nat) (x_stoppedWorth : Nat) (x_withinWorth : Nat) (n_kind : Nat) (n_pay : Nat) (n_name : Nat) (n_ways : Nat) (n_held : Nat) (n_targets : Nat) (n_weights : Nat) : vx_Met l yL_left (.codeWith yL_left cL_left 5 (some .int) [(0, 9, 12, 13)] :: wsL_law) ({ frames := 7, cells := 1, slots := 6, locals := 112 }) (va_Pc [.ref x, .int p0, .int p1, .ref oa] (fun U => U.heap.size = sz ∧ va_P D vwCl [(x, .inr (11, [.ref tp, .ref n, .ref dr, .ref x_images, .ref x_kept, .ref rd, .ref st, .ref tl, .ref rg, .ref sv, .ref oc, .ref x_tried, .ref lf, .int 0, .ref x_stoppedWays, .ref x_stoppedWorth, .int 0, .ref x_withinWorth])), (n, .inr (2, [.int 0, .ref n_kind, .ref n_pay, .ref n_name, .ref n_ways, .ref n_held, .ref n_targets, .ref n_weights]))] U.heap ∧ va_K D vwCl (TY g) U ∧ va_D (fun _ => True) [(x, .inr (11, [.ref tp, .ref n, .ref dr, .ref x_images, .ref x_kept, .ref rd, .ref st, .ref tl, .ref rg, .ref sv, .ref oc, .ref x_tried, .ref lf, .int 0, .ref x_stoppedWays, .ref x_stoppedWorth, .int 0, .ref x_withinWorth])), (n, .inr (2, [.int 0, .ref n_kind, .ref n_pay, .ref n_name, .ref n_ways, .ref n_held, .ref n_targets, .ref n_weights]))] ∧ ZT (va_A [(x, .inr (11, [.ref tp, .ref n, .ref dr, .ref x_images, .ref x_kept, .ref rd, .ref st, .ref tl, .ref rg, .ref sv, .ref oc, .ref x_tried, .ref lf, .int 0, .ref x_stoppedWays, .ref x_stoppedWorth, .int 0, .ref x_withinWorth])), (n, .inr (2, [.int 0, .ref n_kind, .ref n_pay, .ref n_name, .ref n_ways, .ref n_held, .ref n_targets, .ref n_weights]))] sz) U U.heap)) (va_Qi (fun r (_ : Unit) => r = 1) (fun _ _ => True) (va_A [(x, .inr (11, [.ref tp, .ref n, .ref dr, .ref x_images, .ref x_kept, .ref rd, .ref st, .ref tl, .ref rg, .ref sv, .ref oc, .ref x_tried, .ref lf, .int 0, .ref x_stoppedWays, .ref x_stoppedWorth, .int 0, .ref x_withinWorth])), (n, .inr (2, [.int 0, .ref n_kind, .ref n_pay, .ref n_name, .ref n_ways, .ref n_held, .ref n_targets, .ref n_weights]))] sz)) (vx_X (fun (_ : Unit) => False) (fun _ _ _ => True) (va_A [(x, .inr (11, [.ref tp, .ref n, .ref dr, .ref x_images, .ref x_kept, .ref rd, .ref st, .ref tl, .ref rg, .ref sv, .ref oc, .ref x_tried, .ref lf, .int 0, .ref x_stoppedWays, .ref x_stoppedWorth, .int 0, .ref x_withinWorth])), (n, .inr (2, [.int 0, .ref n_kind, .ref n_pay, .ref n_name, .ref n_ways, .ref n_held, .ref n_targets, .ref n_weights]))] sz)) 1 6 (va_A [(x, .inr (11, [.ref tp, .ref n, .ref dr, .ref x_images, .ref x_kept, .ref rd, .ref st, .ref tl, .ref rg, .ref sv, .ref oc, .ref x_tried, .ref lf, .int 0, .ref x_stoppedWays, .ref x_stoppedWorth, .int 0, .ref x_withinWorth])), (n, .inr (2, [.int 0, .ref n_kind, .ref n_pay, .ref n_name, .ref n_ways, .ref n_held, .ref n_targets, .ref n_weights]))] sz) := by
  refine vx_ofWH (cc := cL_left) (maxL := 5) (ret := (some .int)) (hh := [(0, 9, 12, 13)]) (by decide) rfl ?_
  intro p e s m args below meth c s₁ B hml hv
  obtain ⟨rfl, hsz, hP, hK, hD0, hZ⟩ := hv
  have hx := B.exec
  have hb := B.bytes
  have hr := B.returns
  have hts0 := atoms_spec (ws := (.codeWith yL_left cL_left 5 (some .int) [(0, 9, 12, 13)] :: wsL_law)) B.pre
  have hts : ∀ w ∈ wsL_law, w.before _ s = true := fun w h => hts0 w (List.mem_cons_of_mem _ h)
  have hown : s.vm.findClass RL = some m.cls := findClass_of_methodNamed B.named
  have hlocks := B.notSynchronized
  subst hsz
  have hD := hD0.self (sz := s.heap.size)
  generalize hAe : va_A [(x, .inr (11, [.ref tp, .ref n, .ref dr, .ref x_images, .ref x_kept, .ref rd, .ref st, .ref tl, .ref rg, .ref sv, .ref oc, .ref x_tried, .ref lf, .int 0, .ref x_stoppedWays, .ref x_stoppedWorth, .int 0, .ref x_withinWorth])), (n, .inr (2, [.int 0, .ref n_kind, .ref n_pay, .ref n_name, .ref n_ways, .ref n_held, .ref n_targets, .ref n_weights]))] s.heap.size = A at hD hZ ⊢
  have hA : ∀ q : Nat, s.heap.size ≤ q → A q := fun q h => by rw [← hAe]; exact Or.inr h
  have hS : va_S A s.heap s.heap [] := va_S.rf
  have hP : va_P D vwCl [(x, .inr (11, [.ref tp, .ref n, .ref dr, .ref x_images, .ref x_kept, .ref rd, .ref st, .ref tl, .ref rg, .ref sv, .ref oc, .ref x_tried, .ref lf, .int 0, .ref x_stoppedWays, .ref x_stoppedWorth, .int 0, .ref x_withinWorth])), (n, .inr (2, [.int 0, .ref n_kind, .ref n_pay, .ref n_name, .ref n_ways, .ref n_held, .ref n_targets, .ref n_weights]))] s.heap := hP
  have hl := lv_entry ([.ref x, .int p0, .int p1, .ref oa]) (n := 5) (Nat.le_of_ble_eq_true rfl)
  rw [lg_entry_eq]
  generalize (lg_sl ([.ref x, .int p0, .int p1, .ref oa]) ++ List.replicate (5 - (lg_sl ([.ref x, .int p0, .int p1, .ref oa])).length) Slot.unset).toArray = ls at hl ⊢
  have hl : lv_has ls 5 [(0, .ref x), (1, .int p0), (2, .int p1), (3, .ref oa)] := hl
  have htab := vx_table (x := yL_left) B (hts0 _ List.mem_cons_self)
  refine lv_aload_n hx hb dL_left_0 rfl (lv_at hl 3 rfl) ?_
  refine lv_iconst (v := 0) hx hb dL_left_1 (by decide) ?_
  refine lv_aload_n hx hb dL_left_2 rfl (lv_at hl 0 rfl) ?_
  refine lv_iload_n hx hb dL_left_3 rfl (lv_at hl 1 rfl) ?_
  refine lv_iload_n hx hb dL_left_4 rfl (lv_at hl 2 rfl) ?_
  have hPc := hP.sub (ws' := [(x, .inr (11, [.ref tp, .ref n, .ref dr, .ref x_images, .ref x_kept, .ref rd, .ref st, .ref tl, .ref rg, .ref sv, .ref oc, .ref x_tried, .ref lf, .int 0, .ref x_stoppedWays, .ref x_stoppedWorth, .int 0, .ref x_withinWorth])), (n, .inr (2, [.int 0, .ref n_kind, .ref n_pay, .ref n_name, .ref n_ways, .ref n_held, .ref n_targets, .ref n_weights]))]) [0, 1] rfl
  have hDc := hD.sub (ws' := [(x, .inr (11, [.ref tp, .ref n, .ref dr, .ref x_images, .ref x_kept, .ref rd, .ref st, .ref tl, .ref rg, .ref sv, .ref oc, .ref x_tried, .ref lf, .int 0, .ref x_stoppedWays, .ref x_stoppedWorth, .int 0, .ref x_withinWorth])), (n, .inr (2, [.int 0, .ref n_kind, .ref n_pay, .ref n_name, .ref n_ways, .ref n_held, .ref n_targets, .ref n_weights]))]) [0, 1] (by decide) rfl
  have hFc := va_free (wc := [(x, .inr (11, [.ref tp, .ref n, .ref dr, .ref x_images, .ref x_kept, .ref rd, .ref st, .ref tl, .ref rg, .ref sv, .ref oc, .ref x_tried, .ref lf, .int 0, .ref x_stoppedWays, .ref x_stoppedWorth, .int 0, .ref x_withinWorth])), (n, .inr (2, [.int 0, .ref n_kind, .ref n_pay, .ref n_name, .ref n_ways, .ref n_held, .ref n_targets, .ref n_weights]))]) hD hS hA [0, 1] rfl
  refine vx_calll (vx_runV (As := [.int p0, .int p1]) (rest := [.int 0, .ref oa]) ⟨hx, hb, hml, hown, hts⟩ (c_X11_left l hst D g s.heap.size x p0 p1 tp n dr x_images x_kept rd st tl rg sv oc x_tried lf x_stoppedWays x_stoppedWorth x_withinWorth n_kind n_pay n_name n_ways n_held n_targets n_weights) (cwV 2 hts (tz_gV qw_420 qw_421 qw_422 qw_165 qw_423) rfl rfl rfl (by decide +kernel) ⟨Nat.le_of_ble_eq_true rfl, Nat.le_of_ble_eq_true rfl⟩) ⟨tz_blX, va_recv hK hPc (ci := 11) (q0 := 0) rfl rfl, tz_preX hPc hK hDc (hZ.kept hS hFc)⟩ rfl rfl hl.1 rfl (lv_room (Nat.le_of_ble_eq_true rfl)) dL_left_5 ⟨Nat.le_of_ble_eq_true rfl, Nat.le_of_ble_eq_true rfl⟩) hS (fun q _ h => hFc q h) hFc (fun q _ h => hFc q h) (fun E ce q9 u t H1 locs1 ht hvm hpx hBX hz1 hk1 hS hce hcv hcl => ?_) (fun r u t H1 locs1 ht hvm hw hB hz1 hk1 hS => hw.elim)
  subst hBX
  refine vx_catch hown [] _ [] htab (fun _ h => nomatch h) (by decide) (by decide) (hts (Cond.classLink RL 13 "java/util/NoSuchElementException") qw_411) (va_Nw.use rfl hZ.2.2.2.2.2) hce hcv hcl ?_
  refine W.eq (g2 := F0 m 12 ls [.ref q9]) rfl ?_
  refine lv_astore (lv' := [(4, .ref q9), (0, .ref x), (1, .int p0), (2, .int p1), (3, .ref oa)]) hx hb dL_left_12 hl (by decide) rfl (fun ls hl => ?_)
  refine lv_iconst (v := 1) hx hb dL_left_14 (by decide) ?_
  exact vx_ret (W.iret (v := 1) hx hb hr (fun t ht hW => ⟨⟨1, (), rfl, rfl, trivial⟩, hS.F ht⟩) hS.2.2 dL_left_15)
set_option maxHeartbeats 4000000 in
set_option maxRecDepth 100000 in
theorem c_L_stopped (l : Launch) (hst : l.stackTraces = false) (D : va_G) (g : Nat → ClassId) (sz : Nat) (x : Nat) (p0 : Int32) (p1 : Int32) (p2 : Int32) (oa : Nat) (tp : Nat) (n : Nat) (dr : Nat) (x_images : Nat) (x_kept : Nat) (rd : Nat) (st : Nat) (tl : Nat) (rg : Nat) (sv : Nat) (oc : Nat) (x_tried : Nat) (lf : Nat) (x_stoppedWays : Nat) (x_stoppedWorth : Nat) (x_withinWorth : Nat) (n_kind : Nat) (n_pay : Nat) (n_name : Nat) (n_ways : Nat) (n_held : Nat) (n_targets : Nat) (n_weights : Nat) : vx_Met l yL_stopped (.codeWith yL_stopped cL_stopped 6 (some .int) [(0, 11, 14, 13)] :: wsL_law) ({ frames := 7, cells := 1, slots := 6, locals := 113 }) (va_Pc [.ref x, .int p0, .int p1, .int p2, .ref oa] (fun U => U.heap.size = sz ∧ va_P D vwCl [(x, .inr (11, [.ref tp, .ref n, .ref dr, .ref x_images, .ref x_kept, .ref rd, .ref st, .ref tl, .ref rg, .ref sv, .ref oc, .ref x_tried, .ref lf, .int 0, .ref x_stoppedWays, .ref x_stoppedWorth, .int 0, .ref x_withinWorth])), (n, .inr (2, [.int 0, .ref n_kind, .ref n_pay, .ref n_name, .ref n_ways, .ref n_held, .ref n_targets, .ref n_weights]))] U.heap ∧ va_K D vwCl (TY g) U ∧ va_D (fun _ => True) [(x, .inr (11, [.ref tp, .ref n, .ref dr, .ref x_images, .ref x_kept, .ref rd, .ref st, .ref tl, .ref rg, .ref sv, .ref oc, .ref x_tried, .ref lf, .int 0, .ref x_stoppedWays, .ref x_stoppedWorth, .int 0, .ref x_withinWorth])), (n, .inr (2, [.int 0, .ref n_kind, .ref n_pay, .ref n_name, .ref n_ways, .ref n_held, .ref n_targets, .ref n_weights]))] ∧ ZT (va_A [(x, .inr (11, [.ref tp, .ref n, .ref dr, .ref x_images, .ref x_kept, .ref rd, .ref st, .ref tl, .ref rg, .ref sv, .ref oc, .ref x_tried, .ref lf, .int 0, .ref x_stoppedWays, .ref x_stoppedWorth, .int 0, .ref x_withinWorth])), (n, .inr (2, [.int 0, .ref n_kind, .ref n_pay, .ref n_name, .ref n_ways, .ref n_held, .ref n_targets, .ref n_weights]))] sz) U U.heap)) (va_Qi (fun r (_ : Unit) => r = 1) (fun _ _ => True) (va_A [(x, .inr (11, [.ref tp, .ref n, .ref dr, .ref x_images, .ref x_kept, .ref rd, .ref st, .ref tl, .ref rg, .ref sv, .ref oc, .ref x_tried, .ref lf, .int 0, .ref x_stoppedWays, .ref x_stoppedWorth, .int 0, .ref x_withinWorth])), (n, .inr (2, [.int 0, .ref n_kind, .ref n_pay, .ref n_name, .ref n_ways, .ref n_held, .ref n_targets, .ref n_weights]))] sz)) (vx_X (fun (_ : Unit) => False) (fun _ _ _ => True) (va_A [(x, .inr (11, [.ref tp, .ref n, .ref dr, .ref x_images, .ref x_kept, .ref rd, .ref st, .ref tl, .ref rg, .ref sv, .ref oc, .ref x_tried, .ref lf, .int 0, .ref x_stoppedWays, .ref x_stoppedWorth, .int 0, .ref x_withinWorth])), (n, .inr (2, [.int 0, .ref n_kind, .ref n_pay, .ref n_name, .ref n_ways, .ref n_held, .ref n_targets, .ref n_weights]))] sz)) 1 6 (va_A [(x, .inr (11, [.ref tp, .ref n, .ref dr, .ref x_images, .ref x_kept, .ref rd, .ref st, .ref tl, .ref rg, .ref sv, .ref oc, .ref x_tried, .ref lf, .int 0, .ref x_stoppedWays, .ref x_stoppedWorth, .int 0, .ref x_withinWorth])), (n, .inr (2, [.int 0, .ref n_kind, .ref n_pay, .ref n_name, .ref n_ways, .ref n_held, .ref n_targets, .ref n_weights]))] sz) := by
  refine vx_ofWH (cc := cL_stopped) (maxL := 6) (ret := (some .int)) (hh := [(0, 11, 14, 13)]) (by decide) rfl ?_
  intro p e s m args below meth c s₁ B hml hv
  obtain ⟨rfl, hsz, hP, hK, hD0, hZ⟩ := hv
  have hx := B.exec
  have hb := B.bytes
  have hr := B.returns
  have hts0 := atoms_spec (ws := (.codeWith yL_stopped cL_stopped 6 (some .int) [(0, 11, 14, 13)] :: wsL_law)) B.pre
  have hts : ∀ w ∈ wsL_law, w.before _ s = true := fun w h => hts0 w (List.mem_cons_of_mem _ h)
  have hown : s.vm.findClass RL = some m.cls := findClass_of_methodNamed B.named
  have hlocks := B.notSynchronized
  subst hsz
  have hD := hD0.self (sz := s.heap.size)
  generalize hAe : va_A [(x, .inr (11, [.ref tp, .ref n, .ref dr, .ref x_images, .ref x_kept, .ref rd, .ref st, .ref tl, .ref rg, .ref sv, .ref oc, .ref x_tried, .ref lf, .int 0, .ref x_stoppedWays, .ref x_stoppedWorth, .int 0, .ref x_withinWorth])), (n, .inr (2, [.int 0, .ref n_kind, .ref n_pay, .ref n_name, .ref n_ways, .ref n_held, .ref n_targets, .ref n_weights]))] s.heap.size = A at hD hZ ⊢
  have hA : ∀ q : Nat, s.heap.size ≤ q → A q := fun q h => by rw [← hAe]; exact Or.inr h
  have hS : va_S A s.heap s.heap [] := va_S.rf
  have hP : va_P D vwCl [(x, .inr (11, [.ref tp, .ref n, .ref dr, .ref x_images, .ref x_kept, .ref rd, .ref st, .ref tl, .ref rg, .ref sv, .ref oc, .ref x_tried, .ref lf, .int 0, .ref x_stoppedWays, .ref x_stoppedWorth, .int 0, .ref x_withinWorth])), (n, .inr (2, [.int 0, .ref n_kind, .ref n_pay, .ref n_name, .ref n_ways, .ref n_held, .ref n_targets, .ref n_weights]))] s.heap := hP
  have hl := lv_entry ([.ref x, .int p0, .int p1, .int p2, .ref oa]) (n := 6) (Nat.le_of_ble_eq_true rfl)
  rw [lg_entry_eq]
  generalize (lg_sl ([.ref x, .int p0, .int p1, .int p2, .ref oa]) ++ List.replicate (6 - (lg_sl ([.ref x, .int p0, .int p1, .int p2, .ref oa])).length) Slot.unset).toArray = ls at hl ⊢
  have hl : lv_has ls 6 [(0, .ref x), (1, .int p0), (2, .int p1), (3, .int p2), (4, .ref oa)] := hl
  have htab := vx_table (x := yL_stopped) B (hts0 _ List.mem_cons_self)
  refine lv_aload hx hb dL_stopped_0 (lv_at hl 4 rfl) ?_
  refine lv_iconst (v := 0) hx hb dL_stopped_2 (by decide) ?_
  refine lv_aload_n hx hb dL_stopped_3 rfl (lv_at hl 0 rfl) ?_
  refine lv_iload_n hx hb dL_stopped_4 rfl (lv_at hl 1 rfl) ?_
  refine lv_iload_n hx hb dL_stopped_5 rfl (lv_at hl 2 rfl) ?_
  refine lv_iload_n hx hb dL_stopped_6 rfl (lv_at hl 3 rfl) ?_
  have hPc := hP.sub (ws' := [(x, .inr (11, [.ref tp, .ref n, .ref dr, .ref x_images, .ref x_kept, .ref rd, .ref st, .ref tl, .ref rg, .ref sv, .ref oc, .ref x_tried, .ref lf, .int 0, .ref x_stoppedWays, .ref x_stoppedWorth, .int 0, .ref x_withinWorth])), (n, .inr (2, [.int 0, .ref n_kind, .ref n_pay, .ref n_name, .ref n_ways, .ref n_held, .ref n_targets, .ref n_weights]))]) [0, 1] rfl
  have hDc := hD.sub (ws' := [(x, .inr (11, [.ref tp, .ref n, .ref dr, .ref x_images, .ref x_kept, .ref rd, .ref st, .ref tl, .ref rg, .ref sv, .ref oc, .ref x_tried, .ref lf, .int 0, .ref x_stoppedWays, .ref x_stoppedWorth, .int 0, .ref x_withinWorth])), (n, .inr (2, [.int 0, .ref n_kind, .ref n_pay, .ref n_name, .ref n_ways, .ref n_held, .ref n_targets, .ref n_weights]))]) [0, 1] (by decide) rfl
  have hFc := va_free (wc := [(x, .inr (11, [.ref tp, .ref n, .ref dr, .ref x_images, .ref x_kept, .ref rd, .ref st, .ref tl, .ref rg, .ref sv, .ref oc, .ref x_tried, .ref lf, .int 0, .ref x_stoppedWays, .ref x_stoppedWorth, .int 0, .ref x_withinWorth])), (n, .inr (2, [.int 0, .ref n_kind, .ref n_pay, .ref n_name, .ref n_ways, .ref n_held, .ref n_targets, .ref n_weights]))]) hD hS hA [0, 1] rfl
  refine vx_calll (vx_runV (As := [.int p0, .int p1, .int p2]) (rest := [.int 0, .ref oa]) ⟨hx, hb, hml, hown, hts⟩ (c_X11_stopped l hst D g s.heap.size x p0 p1 p2 tp n dr x_images x_kept rd st tl rg sv oc x_tried lf x_stoppedWays x_stoppedWorth x_withinWorth n_kind n_pay n_name n_ways n_held n_targets n_weights) (cwV 3 hts (tz_gV qw_424 qw_425 qw_426 qw_165 qw_427) rfl rfl rfl (by decide +kernel) ⟨Nat.le_of_ble_eq_true rfl, Nat.le_of_ble_eq_true rfl⟩) ⟨tz_blX, va_recv hK hPc (ci := 11) (q0 := 0) rfl rfl, tz_preX hPc hK hDc (hZ.kept hS hFc)⟩ rfl rfl hl.1 rfl (lv_room (Nat.le_of_ble_eq_true rfl)) dL_stopped_7 ⟨Nat.le_of_ble_eq_true rfl, Nat.le_of_ble_eq_true rfl⟩) hS (fun q _ h => hFc q h) hFc (fun q _ h => hFc q h) (fun E ce q9 u t H1 locs1 ht hvm hpx hBX hz1 hk1 hS hce hcv hcl => ?_) (fun r u t H1 locs1 ht hvm hw hB hz1 hk1 hS => hw.elim)
  subst hBX
  refine vx_catch hown [] _ [] htab (fun _ h => nomatch h) (by decide) (by decide) (hts (Cond.classLink RL 13 "java/util/NoSuchElementException") qw_411) (va_Nw.use rfl hZ.2.2.2.2.2) hce hcv hcl ?_
  refine W.eq (g2 := F0 m 14 ls [.ref q9]) rfl ?_
  refine lv_astore (lv' := [(5, .ref q9), (0, .ref x), (1, .int p0), (2, .int p1), (3, .int p2), (4, .ref oa)]) hx hb dL_stopped_14 hl (by decide) rfl (fun ls hl => ?_)
  refine lv_iconst (v := 1) hx hb dL_stopped_16 (by decide) ?_
  exact vx_ret (W.iret (v := 1) hx hb hr (fun t ht hW => ⟨⟨1, (), rfl, rfl, trivial⟩, hS.F ht⟩) hS.2.2 dL_stopped_17)
set_option maxHeartbeats 4000000 in
set_option maxRecDepth 100000 in
theorem c_L_within (l : Launch) (hst : l.stackTraces = false) (D : va_G) (g : Nat → ClassId) (sz : Nat) (x : Nat) (p0 : Int32) (p1 : Int32) (p2 : Int32) (oa : Nat) (tp : Nat) (n : Nat) (dr : Nat) (x_images : Nat) (x_kept : Nat) (rd : Nat) (st : Nat) (tl : Nat) (rg : Nat) (sv : Nat) (oc : Nat) (x_tried : Nat) (lf : Nat) (x_stoppedWays : Nat) (x_stoppedWorth : Nat) (x_withinWorth : Nat) (n_kind : Nat) (n_pay : Nat) (n_name : Nat) (n_ways : Nat) (n_held : Nat) (n_targets : Nat) (n_weights : Nat) : vx_Met l yL_within (.codeWith yL_within cL_within 6 (some .int) [(0, 11, 14, 13)] :: wsL_law) ({ frames := 7, cells := 1, slots := 6, locals := 113 }) (va_Pc [.ref x, .int p0, .int p1, .int p2, .ref oa] (fun U => U.heap.size = sz ∧ va_P D vwCl [(x, .inr (11, [.ref tp, .ref n, .ref dr, .ref x_images, .ref x_kept, .ref rd, .ref st, .ref tl, .ref rg, .ref sv, .ref oc, .ref x_tried, .ref lf, .int 0, .ref x_stoppedWays, .ref x_stoppedWorth, .int 0, .ref x_withinWorth])), (n, .inr (2, [.int 0, .ref n_kind, .ref n_pay, .ref n_name, .ref n_ways, .ref n_held, .ref n_targets, .ref n_weights]))] U.heap ∧ va_K D vwCl (TY g) U ∧ va_D (fun _ => True) [(x, .inr (11, [.ref tp, .ref n, .ref dr, .ref x_images, .ref x_kept, .ref rd, .ref st, .ref tl, .ref rg, .ref sv, .ref oc, .ref x_tried, .ref lf, .int 0, .ref x_stoppedWays, .ref x_stoppedWorth, .int 0, .ref x_withinWorth])), (n, .inr (2, [.int 0, .ref n_kind, .ref n_pay, .ref n_name, .ref n_ways, .ref n_held, .ref n_targets, .ref n_weights]))] ∧ ZT (va_A [(x, .inr (11, [.ref tp, .ref n, .ref dr, .ref x_images, .ref x_kept, .ref rd, .ref st, .ref tl, .ref rg, .ref sv, .ref oc, .ref x_tried, .ref lf, .int 0, .ref x_stoppedWays, .ref x_stoppedWorth, .int 0, .ref x_withinWorth])), (n, .inr (2, [.int 0, .ref n_kind, .ref n_pay, .ref n_name, .ref n_ways, .ref n_held, .ref n_targets, .ref n_weights]))] sz) U U.heap)) (va_Qi (fun r (_ : Unit) => r = 1) (fun _ _ => True) (va_A [(x, .inr (11, [.ref tp, .ref n, .ref dr, .ref x_images, .ref x_kept, .ref rd, .ref st, .ref tl, .ref rg, .ref sv, .ref oc, .ref x_tried, .ref lf, .int 0, .ref x_stoppedWays, .ref x_stoppedWorth, .int 0, .ref x_withinWorth])), (n, .inr (2, [.int 0, .ref n_kind, .ref n_pay, .ref n_name, .ref n_ways, .ref n_held, .ref n_targets, .ref n_weights]))] sz)) (vx_X (fun (_ : Unit) => False) (fun _ _ _ => True) (va_A [(x, .inr (11, [.ref tp, .ref n, .ref dr, .ref x_images, .ref x_kept, .ref rd, .ref st, .ref tl, .ref rg, .ref sv, .ref oc, .ref x_tried, .ref lf, .int 0, .ref x_stoppedWays, .ref x_stoppedWorth, .int 0, .ref x_withinWorth])), (n, .inr (2, [.int 0, .ref n_kind, .ref n_pay, .ref n_name, .ref n_ways, .ref n_held, .ref n_targets, .ref n_weights]))] sz)) 1 6 (va_A [(x, .inr (11, [.ref tp, .ref n, .ref dr, .ref x_images, .ref x_kept, .ref rd, .ref st, .ref tl, .ref rg, .ref sv, .ref oc, .ref x_tried, .ref lf, .int 0, .ref x_stoppedWays, .ref x_stoppedWorth, .int 0, .ref x_withinWorth])), (n, .inr (2, [.int 0, .ref n_kind, .ref n_pay, .ref n_name, .ref n_ways, .ref n_held, .ref n_targets, .ref n_weights]))] sz) := by
  refine vx_ofWH (cc := cL_within) (maxL := 6) (ret := (some .int)) (hh := [(0, 11, 14, 13)]) (by decide) rfl ?_
  intro p e s m args below meth c s₁ B hml hv
  obtain ⟨rfl, hsz, hP, hK, hD0, hZ⟩ := hv
  have hx := B.exec
  have hb := B.bytes
  have hr := B.returns
  have hts0 := atoms_spec (ws := (.codeWith yL_within cL_within 6 (some .int) [(0, 11, 14, 13)] :: wsL_law)) B.pre
  have hts : ∀ w ∈ wsL_law, w.before _ s = true := fun w h => hts0 w (List.mem_cons_of_mem _ h)
  have hown : s.vm.findClass RL = some m.cls := findClass_of_methodNamed B.named
  have hlocks := B.notSynchronized
  subst hsz
  have hD := hD0.self (sz := s.heap.size)
  generalize hAe : va_A [(x, .inr (11, [.ref tp, .ref n, .ref dr, .ref x_images, .ref x_kept, .ref rd, .ref st, .ref tl, .ref rg, .ref sv, .ref oc, .ref x_tried, .ref lf, .int 0, .ref x_stoppedWays, .ref x_stoppedWorth, .int 0, .ref x_withinWorth])), (n, .inr (2, [.int 0, .ref n_kind, .ref n_pay, .ref n_name, .ref n_ways, .ref n_held, .ref n_targets, .ref n_weights]))] s.heap.size = A at hD hZ ⊢
  have hA : ∀ q : Nat, s.heap.size ≤ q → A q := fun q h => by rw [← hAe]; exact Or.inr h
  have hS : va_S A s.heap s.heap [] := va_S.rf
  have hP : va_P D vwCl [(x, .inr (11, [.ref tp, .ref n, .ref dr, .ref x_images, .ref x_kept, .ref rd, .ref st, .ref tl, .ref rg, .ref sv, .ref oc, .ref x_tried, .ref lf, .int 0, .ref x_stoppedWays, .ref x_stoppedWorth, .int 0, .ref x_withinWorth])), (n, .inr (2, [.int 0, .ref n_kind, .ref n_pay, .ref n_name, .ref n_ways, .ref n_held, .ref n_targets, .ref n_weights]))] s.heap := hP
  have hl := lv_entry ([.ref x, .int p0, .int p1, .int p2, .ref oa]) (n := 6) (Nat.le_of_ble_eq_true rfl)
  rw [lg_entry_eq]
  generalize (lg_sl ([.ref x, .int p0, .int p1, .int p2, .ref oa]) ++ List.replicate (6 - (lg_sl ([.ref x, .int p0, .int p1, .int p2, .ref oa])).length) Slot.unset).toArray = ls at hl ⊢
  have hl : lv_has ls 6 [(0, .ref x), (1, .int p0), (2, .int p1), (3, .int p2), (4, .ref oa)] := hl
  have htab := vx_table (x := yL_within) B (hts0 _ List.mem_cons_self)
  refine lv_aload hx hb dL_within_0 (lv_at hl 4 rfl) ?_
  refine lv_iconst (v := 0) hx hb dL_within_2 (by decide) ?_
  refine lv_aload_n hx hb dL_within_3 rfl (lv_at hl 0 rfl) ?_
  refine lv_iload_n hx hb dL_within_4 rfl (lv_at hl 1 rfl) ?_
  refine lv_iload_n hx hb dL_within_5 rfl (lv_at hl 2 rfl) ?_
  refine lv_iload_n hx hb dL_within_6 rfl (lv_at hl 3 rfl) ?_
  have hPc := hP.sub (ws' := [(x, .inr (11, [.ref tp, .ref n, .ref dr, .ref x_images, .ref x_kept, .ref rd, .ref st, .ref tl, .ref rg, .ref sv, .ref oc, .ref x_tried, .ref lf, .int 0, .ref x_stoppedWays, .ref x_stoppedWorth, .int 0, .ref x_withinWorth])), (n, .inr (2, [.int 0, .ref n_kind, .ref n_pay, .ref n_name, .ref n_ways, .ref n_held, .ref n_targets, .ref n_weights]))]) [0, 1] rfl
  have hDc := hD.sub (ws' := [(x, .inr (11, [.ref tp, .ref n, .ref dr, .ref x_images, .ref x_kept, .ref rd, .ref st, .ref tl, .ref rg, .ref sv, .ref oc, .ref x_tried, .ref lf, .int 0, .ref x_stoppedWays, .ref x_stoppedWorth, .int 0, .ref x_withinWorth])), (n, .inr (2, [.int 0, .ref n_kind, .ref n_pay, .ref n_name, .ref n_ways, .ref n_held, .ref n_targets, .ref n_weights]))]) [0, 1] (by decide) rfl
  have hFc := va_free (wc := [(x, .inr (11, [.ref tp, .ref n, .ref dr, .ref x_images, .ref x_kept, .ref rd, .ref st, .ref tl, .ref rg, .ref sv, .ref oc, .ref x_tried, .ref lf, .int 0, .ref x_stoppedWays, .ref x_stoppedWorth, .int 0, .ref x_withinWorth])), (n, .inr (2, [.int 0, .ref n_kind, .ref n_pay, .ref n_name, .ref n_ways, .ref n_held, .ref n_targets, .ref n_weights]))]) hD hS hA [0, 1] rfl
  refine vx_calll (vx_runV (As := [.int p0, .int p1, .int p2]) (rest := [.int 0, .ref oa]) ⟨hx, hb, hml, hown, hts⟩ (c_X11_within l hst D g s.heap.size x p0 p1 p2 tp n dr x_images x_kept rd st tl rg sv oc x_tried lf x_stoppedWays x_stoppedWorth x_withinWorth n_kind n_pay n_name n_ways n_held n_targets n_weights) (cwV 3 hts (tz_gV qw_428 qw_429 qw_430 qw_165 qw_431) rfl rfl rfl (by decide +kernel) ⟨Nat.le_of_ble_eq_true rfl, Nat.le_of_ble_eq_true rfl⟩) ⟨tz_blX, va_recv hK hPc (ci := 11) (q0 := 0) rfl rfl, tz_preX hPc hK hDc (hZ.kept hS hFc)⟩ rfl rfl hl.1 rfl (lv_room (Nat.le_of_ble_eq_true rfl)) dL_within_7 ⟨Nat.le_of_ble_eq_true rfl, Nat.le_of_ble_eq_true rfl⟩) hS (fun q _ h => hFc q h) hFc (fun q _ h => hFc q h) (fun E ce q9 u t H1 locs1 ht hvm hpx hBX hz1 hk1 hS hce hcv hcl => ?_) (fun r u t H1 locs1 ht hvm hw hB hz1 hk1 hS => hw.elim)
  subst hBX
  refine vx_catch hown [] _ [] htab (fun _ h => nomatch h) (by decide) (by decide) (hts (Cond.classLink RL 13 "java/util/NoSuchElementException") qw_411) (va_Nw.use rfl hZ.2.2.2.2.2) hce hcv hcl ?_
  refine W.eq (g2 := F0 m 14 ls [.ref q9]) rfl ?_
  refine lv_astore (lv' := [(5, .ref q9), (0, .ref x), (1, .int p0), (2, .int p1), (3, .int p2), (4, .ref oa)]) hx hb dL_within_14 hl (by decide) rfl (fun ls hl => ?_)
  refine lv_iconst (v := 1) hx hb dL_within_16 (by decide) ?_
  exact vx_ret (W.iret (v := 1) hx hb hr (fun t ht hW => ⟨⟨1, (), rfl, rfl, trivial⟩, hS.F ht⟩) hS.2.2 dL_within_17)
set_option maxHeartbeats 4000000 in
set_option maxRecDepth 100000 in
theorem c_L_moves (l : Launch) (hst : l.stackTraces = false) (D : va_G) (g : Nat → ClassId) (sz : Nat) (x : Nat) (p0 : Int32) (p1 : Int32) (oa : Nat) (tp : Nat) (n : Nat) (dr : Nat) (x_images : Nat) (x_kept : Nat) (rd : Nat) (st : Nat) (tl : Nat) (rg : Nat) (sv : Nat) (oc : Nat) (x_tried : Nat) (lf : Nat) (x_stoppedWays : Nat) (x_stoppedWorth : Nat) (x_withinWorth : Nat) (n_kind : Nat) (n_pay : Nat) (n_name : Nat) (n_ways : Nat) (n_held : Nat) (n_targets : Nat) (n_weights : Nat) : vx_Met l yL_moves (.codeWith yL_moves cL_moves 5 (some .int) [(0, 9, 12, 13)] :: wsL_law) ({ frames := 7, cells := 1, slots := 6, locals := 112 }) (va_Pc [.ref x, .int p0, .int p1, .ref oa] (fun U => U.heap.size = sz ∧ va_P D vwCl [(x, .inr (11, [.ref tp, .ref n, .ref dr, .ref x_images, .ref x_kept, .ref rd, .ref st, .ref tl, .ref rg, .ref sv, .ref oc, .ref x_tried, .ref lf, .int 0, .ref x_stoppedWays, .ref x_stoppedWorth, .int 0, .ref x_withinWorth])), (n, .inr (2, [.int 0, .ref n_kind, .ref n_pay, .ref n_name, .ref n_ways, .ref n_held, .ref n_targets, .ref n_weights]))] U.heap ∧ va_K D vwCl (TY g) U ∧ va_D (fun _ => True) [(x, .inr (11, [.ref tp, .ref n, .ref dr, .ref x_images, .ref x_kept, .ref rd, .ref st, .ref tl, .ref rg, .ref sv, .ref oc, .ref x_tried, .ref lf, .int 0, .ref x_stoppedWays, .ref x_stoppedWorth, .int 0, .ref x_withinWorth])), (n, .inr (2, [.int 0, .ref n_kind, .ref n_pay, .ref n_name, .ref n_ways, .ref n_held, .ref n_targets, .ref n_weights]))] ∧ ZT (va_A [(x, .inr (11, [.ref tp, .ref n, .ref dr, .ref x_images, .ref x_kept, .ref rd, .ref st, .ref tl, .ref rg, .ref sv, .ref oc, .ref x_tried, .ref lf, .int 0, .ref x_stoppedWays, .ref x_stoppedWorth, .int 0, .ref x_withinWorth])), (n, .inr (2, [.int 0, .ref n_kind, .ref n_pay, .ref n_name, .ref n_ways, .ref n_held, .ref n_targets, .ref n_weights]))] sz) U U.heap)) (va_Qi (fun r (_ : Unit) => r = 1) (fun _ _ => True) (va_A [(x, .inr (11, [.ref tp, .ref n, .ref dr, .ref x_images, .ref x_kept, .ref rd, .ref st, .ref tl, .ref rg, .ref sv, .ref oc, .ref x_tried, .ref lf, .int 0, .ref x_stoppedWays, .ref x_stoppedWorth, .int 0, .ref x_withinWorth])), (n, .inr (2, [.int 0, .ref n_kind, .ref n_pay, .ref n_name, .ref n_ways, .ref n_held, .ref n_targets, .ref n_weights]))] sz)) (vx_X (fun (_ : Unit) => False) (fun _ _ _ => True) (va_A [(x, .inr (11, [.ref tp, .ref n, .ref dr, .ref x_images, .ref x_kept, .ref rd, .ref st, .ref tl, .ref rg, .ref sv, .ref oc, .ref x_tried, .ref lf, .int 0, .ref x_stoppedWays, .ref x_stoppedWorth, .int 0, .ref x_withinWorth])), (n, .inr (2, [.int 0, .ref n_kind, .ref n_pay, .ref n_name, .ref n_ways, .ref n_held, .ref n_targets, .ref n_weights]))] sz)) 1 6 (va_A [(x, .inr (11, [.ref tp, .ref n, .ref dr, .ref x_images, .ref x_kept, .ref rd, .ref st, .ref tl, .ref rg, .ref sv, .ref oc, .ref x_tried, .ref lf, .int 0, .ref x_stoppedWays, .ref x_stoppedWorth, .int 0, .ref x_withinWorth])), (n, .inr (2, [.int 0, .ref n_kind, .ref n_pay, .ref n_name, .ref n_ways, .ref n_held, .ref n_targets, .ref n_weights]))] sz) := by
  refine vx_ofWH (cc := cL_moves) (maxL := 5) (ret := (some .int)) (hh := [(0, 9, 12, 13)]) (by decide) rfl ?_
  intro p e s m args below meth c s₁ B hml hv
  obtain ⟨rfl, hsz, hP, hK, hD0, hZ⟩ := hv
  have hx := B.exec
  have hb := B.bytes
  have hr := B.returns
  have hts0 := atoms_spec (ws := (.codeWith yL_moves cL_moves 5 (some .int) [(0, 9, 12, 13)] :: wsL_law)) B.pre
  have hts : ∀ w ∈ wsL_law, w.before _ s = true := fun w h => hts0 w (List.mem_cons_of_mem _ h)
  have hown : s.vm.findClass RL = some m.cls := findClass_of_methodNamed B.named
  have hlocks := B.notSynchronized
  subst hsz
  have hD := hD0.self (sz := s.heap.size)
  generalize hAe : va_A [(x, .inr (11, [.ref tp, .ref n, .ref dr, .ref x_images, .ref x_kept, .ref rd, .ref st, .ref tl, .ref rg, .ref sv, .ref oc, .ref x_tried, .ref lf, .int 0, .ref x_stoppedWays, .ref x_stoppedWorth, .int 0, .ref x_withinWorth])), (n, .inr (2, [.int 0, .ref n_kind, .ref n_pay, .ref n_name, .ref n_ways, .ref n_held, .ref n_targets, .ref n_weights]))] s.heap.size = A at hD hZ ⊢
  have hA : ∀ q : Nat, s.heap.size ≤ q → A q := fun q h => by rw [← hAe]; exact Or.inr h
  have hS : va_S A s.heap s.heap [] := va_S.rf
  have hP : va_P D vwCl [(x, .inr (11, [.ref tp, .ref n, .ref dr, .ref x_images, .ref x_kept, .ref rd, .ref st, .ref tl, .ref rg, .ref sv, .ref oc, .ref x_tried, .ref lf, .int 0, .ref x_stoppedWays, .ref x_stoppedWorth, .int 0, .ref x_withinWorth])), (n, .inr (2, [.int 0, .ref n_kind, .ref n_pay, .ref n_name, .ref n_ways, .ref n_held, .ref n_targets, .ref n_weights]))] s.heap := hP
  have hl := lv_entry ([.ref x, .int p0, .int p1, .ref oa]) (n := 5) (Nat.le_of_ble_eq_true rfl)
  rw [lg_entry_eq]
  generalize (lg_sl ([.ref x, .int p0, .int p1, .ref oa]) ++ List.replicate (5 - (lg_sl ([.ref x, .int p0, .int p1, .ref oa])).length) Slot.unset).toArray = ls at hl ⊢
  have hl : lv_has ls 5 [(0, .ref x), (1, .int p0), (2, .int p1), (3, .ref oa)] := hl
  have htab := vx_table (x := yL_moves) B (hts0 _ List.mem_cons_self)
  refine lv_aload_n hx hb dL_moves_0 rfl (lv_at hl 3 rfl) ?_
  refine lv_iconst (v := 0) hx hb dL_moves_1 (by decide) ?_
  refine lv_aload_n hx hb dL_moves_2 rfl (lv_at hl 0 rfl) ?_
  refine lv_iload_n hx hb dL_moves_3 rfl (lv_at hl 1 rfl) ?_
  refine lv_iload_n hx hb dL_moves_4 rfl (lv_at hl 2 rfl) ?_
  have hPc := hP.sub (ws' := [(x, .inr (11, [.ref tp, .ref n, .ref dr, .ref x_images, .ref x_kept, .ref rd, .ref st, .ref tl, .ref rg, .ref sv, .ref oc, .ref x_tried, .ref lf, .int 0, .ref x_stoppedWays, .ref x_stoppedWorth, .int 0, .ref x_withinWorth])), (n, .inr (2, [.int 0, .ref n_kind, .ref n_pay, .ref n_name, .ref n_ways, .ref n_held, .ref n_targets, .ref n_weights]))]) [0, 1] rfl
  have hDc := hD.sub (ws' := [(x, .inr (11, [.ref tp, .ref n, .ref dr, .ref x_images, .ref x_kept, .ref rd, .ref st, .ref tl, .ref rg, .ref sv, .ref oc, .ref x_tried, .ref lf, .int 0, .ref x_stoppedWays, .ref x_stoppedWorth, .int 0, .ref x_withinWorth])), (n, .inr (2, [.int 0, .ref n_kind, .ref n_pay, .ref n_name, .ref n_ways, .ref n_held, .ref n_targets, .ref n_weights]))]) [0, 1] (by decide) rfl
  have hFc := va_free (wc := [(x, .inr (11, [.ref tp, .ref n, .ref dr, .ref x_images, .ref x_kept, .ref rd, .ref st, .ref tl, .ref rg, .ref sv, .ref oc, .ref x_tried, .ref lf, .int 0, .ref x_stoppedWays, .ref x_stoppedWorth, .int 0, .ref x_withinWorth])), (n, .inr (2, [.int 0, .ref n_kind, .ref n_pay, .ref n_name, .ref n_ways, .ref n_held, .ref n_targets, .ref n_weights]))]) hD hS hA [0, 1] rfl
  refine vx_calll (vx_runV (As := [.int p0, .int p1]) (rest := [.int 0, .ref oa]) ⟨hx, hb, hml, hown, hts⟩ (c_X11_moves l hst D g s.heap.size x p0 p1 tp n dr x_images x_kept rd st tl rg sv oc x_tried lf x_stoppedWays x_stoppedWorth x_withinWorth n_kind n_pay n_name n_ways n_held n_targets n_weights) (cwV 2 hts (tz_gV qw_432 qw_433 qw_434 qw_165 qw_435) rfl rfl rfl (by decide +kernel) ⟨Nat.le_of_ble_eq_true rfl, Nat.le_of_ble_eq_true rfl⟩) ⟨tz_blX, va_recv hK hPc (ci := 11) (q0 := 0) rfl rfl, tz_preX hPc hK hDc (hZ.kept hS hFc)⟩ rfl rfl hl.1 rfl (lv_room (Nat.le_of_ble_eq_true rfl)) dL_moves_5 ⟨Nat.le_of_ble_eq_true rfl, Nat.le_of_ble_eq_true rfl⟩) hS (fun q _ h => hFc q h) hFc (fun q _ h => hFc q h) (fun E ce q9 u t H1 locs1 ht hvm hpx hBX hz1 hk1 hS hce hcv hcl => ?_) (fun r u t H1 locs1 ht hvm hw hB hz1 hk1 hS => hw.elim)
  subst hBX
  refine vx_catch hown [] _ [] htab (fun _ h => nomatch h) (by decide) (by decide) (hts (Cond.classLink RL 13 "java/util/NoSuchElementException") qw_411) (va_Nw.use rfl hZ.2.2.2.2.2) hce hcv hcl ?_
  refine W.eq (g2 := F0 m 12 ls [.ref q9]) rfl ?_
  refine lv_astore (lv' := [(4, .ref q9), (0, .ref x), (1, .int p0), (2, .int p1), (3, .ref oa)]) hx hb dL_moves_12 hl (by decide) rfl (fun ls hl => ?_)
  refine lv_iconst (v := 1) hx hb dL_moves_14 (by decide) ?_
  exact vx_ret (W.iret (v := 1) hx hb hr (fun t ht hW => ⟨⟨1, (), rfl, rfl, trivial⟩, hS.F ht⟩) hS.2.2 dL_moves_15)
