theorem qw_405 : Cond.classLink RX11 135 "java/util/NoSuchElementException" ∈ wsL_law := tseg_4 (by decide +kernel) (List.mem_of_getElem? (i := 236) (by decide +kernel))
theorem qw_406 : Cond.initialized "java/util/NoSuchElementException" ∈ wsL_law := tseg_1 (by decide +kernel) (List.mem_of_getElem? (i := 22) (by decide +kernel))
theorem dX11_left_0 : decode cX11_left 0 = .ok (.aload_n 0, 1) := by decide +kernel
theorem dX11_left_1 : decode cX11_left 1 = .ok (.getfield 19, 3) := by decide +kernel
theorem dX11_left_4 : decode cX11_left 4 = .ok (.iload_n 1, 1) := by decide +kernel
theorem dX11_left_5 : decode cX11_left 5 = .ok (.invokevirtual 131, 3) := by decide +kernel
theorem dX11_left_8 : decode cX11_left 8 = .ok (.ifCond .eq 12, 3) := by decide +kernel
theorem dX11_left_20 : decode cX11_left 20 = .ok (.new 135, 3) := by decide +kernel
theorem dX11_left_23 : decode cX11_left 23 = .ok (.dup, 1) := by decide +kernel
theorem dX11_left_24 : decode cX11_left 24 = .ok (.invokespecial 137, 3) := by decide +kernel
theorem dX11_left_27 : decode cX11_left 27 = .ok (.athrow, 1) := by decide +kernel
theorem dX11_moves_0 : decode cX11_moves 0 = .ok (.aload_n 0, 1) := by decide +kernel
theorem dX11_moves_1 : decode cX11_moves 1 = .ok (.getfield 19, 3) := by decide +kernel
theorem dX11_moves_4 : decode cX11_moves 4 = .ok (.iload_n 1, 1) := by decide +kernel
theorem dX11_moves_5 : decode cX11_moves 5 = .ok (.invokevirtual 131, 3) := by decide +kernel
theorem dX11_moves_8 : decode cX11_moves 8 = .ok (.ifCond .eq 12, 3) := by decide +kernel
theorem dX11_moves_20 : decode cX11_moves 20 = .ok (.new 135, 3) := by decide +kernel
theorem dX11_moves_23 : decode cX11_moves 23 = .ok (.dup, 1) := by decide +kernel
theorem dX11_moves_24 : decode cX11_moves 24 = .ok (.invokespecial 137, 3) := by decide +kernel
theorem dX11_moves_27 : decode cX11_moves 27 = .ok (.athrow, 1) := by decide +kernel
theorem dX11_node_0 : decode cX11_node 0 = .ok (.aload_n 0, 1) := by decide +kernel
theorem dX11_node_1 : decode cX11_node 1 = .ok (.getfield 19, 3) := by decide +kernel
theorem dX11_node_4 : decode cX11_node 4 = .ok (.iload_n 1, 1) := by decide +kernel
theorem dX11_node_5 : decode cX11_node 5 = .ok (.invokevirtual 131, 3) := by decide +kernel
theorem dX11_node_8 : decode cX11_node 8 = .ok (.ifCond .eq 12, 3) := by decide +kernel
theorem dX11_node_20 : decode cX11_node 20 = .ok (.new 135, 3) := by decide +kernel
theorem dX11_node_23 : decode cX11_node 23 = .ok (.dup, 1) := by decide +kernel
theorem dX11_node_24 : decode cX11_node 24 = .ok (.invokespecial 137, 3) := by decide +kernel
theorem dX11_node_27 : decode cX11_node 27 = .ok (.athrow, 1) := by decide +kernel
theorem dX11_stopped_0 : decode cX11_stopped 0 = .ok (.aload_n 0, 1) := by decide +kernel
theorem dX11_stopped_1 : decode cX11_stopped 1 = .ok (.getfield 19, 3) := by decide +kernel
theorem dX11_stopped_4 : decode cX11_stopped 4 = .ok (.iload_n 1, 1) := by decide +kernel
theorem dX11_stopped_5 : decode cX11_stopped 5 = .ok (.invokevirtual 131, 3) := by decide +kernel
theorem dX11_stopped_8 : decode cX11_stopped 8 = .ok (.ifCond .eq 22, 3) := by decide +kernel
theorem dX11_stopped_30 : decode cX11_stopped 30 = .ok (.new 135, 3) := by decide +kernel
theorem dX11_stopped_33 : decode cX11_stopped 33 = .ok (.dup, 1) := by decide +kernel
theorem dX11_stopped_34 : decode cX11_stopped 34 = .ok (.invokespecial 137, 3) := by decide +kernel
theorem dX11_stopped_37 : decode cX11_stopped 37 = .ok (.athrow, 1) := by decide +kernel
theorem dX11_way_0 : decode cX11_way 0 = .ok (.aload_n 0, 1) := by decide +kernel
theorem dX11_way_1 : decode cX11_way 1 = .ok (.getfield 19, 3) := by decide +kernel
theorem dX11_way_4 : decode cX11_way 4 = .ok (.iload_n 1, 1) := by decide +kernel
theorem dX11_way_5 : decode cX11_way 5 = .ok (.iload_n 2, 1) := by decide +kernel
theorem dX11_way_6 : decode cX11_way 6 = .ok (.invokevirtual 150, 3) := by decide +kernel
theorem dX11_way_9 : decode cX11_way 9 = .ok (.ifCond .eq 12, 3) := by decide +kernel
theorem dX11_way_21 : decode cX11_way 21 = .ok (.new 135, 3) := by decide +kernel
theorem dX11_way_24 : decode cX11_way 24 = .ok (.dup, 1) := by decide +kernel
theorem dX11_way_25 : decode cX11_way 25 = .ok (.invokespecial 137, 3) := by decide +kernel
theorem dX11_way_28 : decode cX11_way 28 = .ok (.athrow, 1) := by decide +kernel
theorem dX11_within_0 : decode cX11_within 0 = .ok (.aload_n 0, 1) := by decide +kernel
theorem dX11_within_1 : decode cX11_within 1 = .ok (.getfield 19, 3) := by decide +kernel
theorem dX11_within_4 : decode cX11_within 4 = .ok (.iload_n 1, 1) := by decide +kernel
theorem dX11_within_5 : decode cX11_within 5 = .ok (.invokevirtual 131, 3) := by decide +kernel
theorem dX11_within_8 : decode cX11_within 8 = .ok (.ifCond .eq 22, 3) := by decide +kernel
theorem dX11_within_30 : decode cX11_within 30 = .ok (.new 135, 3) := by decide +kernel
theorem dX11_within_33 : decode cX11_within 33 = .ok (.dup, 1) := by decide +kernel
theorem dX11_within_34 : decode cX11_within 34 = .ok (.invokespecial 137, 3) := by decide +kernel
theorem dX11_within_37 : decode cX11_within 37 = .ok (.athrow, 1) := by decide +kernel
theorem dX11_worth_0 : decode cX11_worth 0 = .ok (.aload_n 0, 1) := by decide +kernel
theorem dX11_worth_1 : decode cX11_worth 1 = .ok (.getfield 19, 3) := by decide +kernel
theorem dX11_worth_4 : decode cX11_worth 4 = .ok (.iload_n 1, 1) := by decide +kernel
theorem dX11_worth_5 : decode cX11_worth 5 = .ok (.invokevirtual 131, 3) := by decide +kernel
theorem dX11_worth_8 : decode cX11_worth 8 = .ok (.ifCond .eq 12, 3) := by decide +kernel
theorem dX11_worth_20 : decode cX11_worth 20 = .ok (.new 135, 3) := by decide +kernel
theorem dX11_worth_23 : decode cX11_worth 23 = .ok (.dup, 1) := by decide +kernel
theorem dX11_worth_24 : decode cX11_worth 24 = .ok (.invokespecial 137, 3) := by decide +kernel
theorem dX11_worth_27 : decode cX11_worth 27 = .ok (.athrow, 1) := by decide +kernel
/-- what a throw needs beside the good words -/
def ZT (A : Nat → Prop) (U : State) (H : Heap) : Prop := vx_Zq Bundle.tN "UNASSIGNED_STACK" Bundle.steD A U H ∧ vx_Zq Bundle.tN "SUPPRESSED_SENTINEL" Bundle.listD A U H ∧ va_Nw (.declares (Bundle.init0 "java/lang/RuntimeException")) U ∧ va_Nw (.declares (Bundle.init0 "java/lang/Exception")) U ∧ va_Nw (.declares (Bundle.init0 Bundle.tN)) U ∧ va_Nw (.castable "java/util/NoSuchElementException" "java/util/NoSuchElementException") U
theorem ZT.same {A : Nat → Prop} {u U : State} {H : Heap} (h : ZT A u H) (e : u.vm = U.vm) : ZT A U H := by
  obtain ⟨h1, h2, h3, h4, h5, h6⟩ := h
  have al : u.vm.Alike U.vm := by rw [e]; exact Vm.Alike.refl _
  exact ⟨vx_Zq.moved al h1, vx_Zq.moved al h2, va_Nw.same rfl e h3, va_Nw.same rfl e h4, va_Nw.same rfl e h5, va_Nw.same rfl e h6⟩
theorem ZT.warm {A : Nat → Prop} {s U : State} {H : Heap} (h : ZT A s H) (hW : s.WarmedH U.vm) : ZT A U H := by
  obtain ⟨h1, h2, h3, h4, h5, h6⟩ := h
  exact ⟨vx_Zq.moved hW.alike h1, vx_Zq.moved hW.alike h2, va_Nw.warmD hW h3, va_Nw.warmD hW h4, va_Nw.warmD hW h5, va_Nw.warmC hW h6⟩
theorem ZT.kept {A B : Nat → Prop} {s : State} {H0 H : Heap} {locs : List Loc} (h : ZT A s H0) (hS : va_S A H0 H locs) (hB : ∀ q, B q → A q) : ZT B s H := by
  obtain ⟨h1, h2, h3⟩ := h
  exact ⟨(h1.kept hS.2.1).narrow hB, (h2.kept hS.2.1).narrow hB, h3⟩
theorem tz_blX {D : va_G} {av : List Value} {w : va_W} {tys : List (ClassId × FieldType)} {sz : Nat} {A : Nat → Prop} : FrameBlind (va_Pc av (fun U => U.heap.size = sz ∧ va_P D vwCl w U.heap ∧ va_K D vwCl tys U ∧ va_D (fun _ => True) w ∧ ZT A U U.heap)) := fun a U g mk q => by
  obtain ⟨q0, q1, qP, qK, qD, qZ⟩ := q
  exact ⟨q0, q1, qP, va_K.moved (u := U) (U := U.calling g mk a) (Vm.Alike.refl U.vm) qK, qD, ZT.same (u := U) (U := U.calling g mk a) qZ rfl⟩
theorem tz_preX {D : va_G} {s : State} {H : Heap} {w : va_W} {tys : List (ClassId × FieldType)} {av : List Value} {A B : Nat → Prop} (hP : va_P D vwCl w H) (hK : va_K D vwCl tys s) (hD : va_D A w) (hZ : ZT B s H) : ∀ U : State, U.heap = H → s.WarmedH U.vm → va_Pc av (fun U => U.heap.size = H.size ∧ va_P D vwCl w U.heap ∧ va_K D vwCl tys U ∧ va_D (fun _ => True) w ∧ ZT B U U.heap) av.toArray U := fun U hU hW => ⟨rfl, by rw [hU], by rw [hU]; exact hP, va_K.moved hW.alike hK, hD.weaken (fun _ _ _ _ => trivial), by rw [hU]; exact hZ.warm hW⟩
theorem tx_x0 : ∀ w ∈ (vx_at0 RX11 137 "java/util/NoSuchElementException" ["java/lang/RuntimeException", "java/lang/Exception"]).filter goodWord, w ∈ lw_tbl := by decide +kernel
theorem tx_x1 : ∀ w ∈ (vx_at0 RX11 137 "java/util/NoSuchElementException" ["java/lang/RuntimeException", "java/lang/Exception"]).filter goodWord, w ∈ wsL_law := fun w h => List.mem_filter.mpr ⟨tx_x0 w h, (List.mem_filter.mp h).2⟩
theorem tx_x2 : ∀ w ∈ (vx_at0 RX11 137 "java/util/NoSuchElementException" ["java/lang/RuntimeException", "java/lang/Exception"]).filter (fun w => !goodWord w), w ∈ ([.declares (Bundle.init0 "java/lang/RuntimeException"), .declares (Bundle.init0 "java/lang/Exception"), .declares (Bundle.init0 Bundle.tN), .castable "java/util/NoSuchElementException" "java/util/NoSuchElementException"] : List Cond) := by decide +kernel
theorem tx_good : ∀ w ∈ Cond.classLink RX11 135 "java/util/NoSuchElementException" :: Cond.initialized "java/util/NoSuchElementException" :: vx_at0 RX11 137 "java/util/NoSuchElementException" ["java/lang/RuntimeException", "java/lang/Exception"], vx_ot w = true := by decide +kernel
theorem tx_at {A : Nat → Prop} {args : Array Value} {s : State} {H : Heap} (hts : ∀ w ∈ wsL_law, w.before args s = true) (hZ : ZT A s H) : ∀ w ∈ vx_at0 RX11 137 "java/util/NoSuchElementException" ["java/lang/RuntimeException", "java/lang/Exception"], w.before args s = true :=
  vx_hat (fun w h => hts w (tx_x1 w h)) tx_x2 (vx_c (va_Nw.use rfl hZ.2.2.1) (vx_c (va_Nw.use rfl hZ.2.2.2.1) (vx_c (va_Nw.use rfl hZ.2.2.2.2.1) (vx_c (va_Nw.use rfl hZ.2.2.2.2.2) vx_n))))
set_option maxHeartbeats 4000000 in
set_option maxRecDepth 100000 in
theorem c_X11_node (l : Launch) (hst : l.stackTraces = false) (D : va_G) (g : Nat → ClassId) (sz : Nat) (x : Nat) (p0 : Int32) (p1 : Int32) (tp : Nat) (n : Nat) (dr : Nat) (x_images : Nat) (x_kept : Nat) (rd : Nat) (st : Nat) (tl : Nat) (rg : Nat) (sv : Nat) (oc : Nat) (x_tried : Nat) (lf : Nat) (x_stoppedWays : Nat) (x_stoppedWorth : Nat) (x_withinWorth : Nat) (n_kind : Nat) (n_pay : Nat) (n_name : Nat) (n_ways : Nat) (n_held : Nat) (n_targets : Nat) (n_weights : Nat) : vx_Met l yX11_node (.code yX11_node cX11_node 3 (some .int) :: wsL_law) ({ frames := 6, cells := 1, slots := 6, locals := 90 }) (va_Pc [.ref x, .int p0, .int p1] (fun U => U.heap.size = sz ∧ va_P D vwCl [(x, .inr (11, [.ref tp, .ref n, .ref dr, .ref x_images, .ref x_kept, .ref rd, .ref st, .ref tl, .ref rg, .ref sv, .ref oc, .ref x_tried, .ref lf, .int 0, .ref x_stoppedWays, .ref x_stoppedWorth, .int 0, .ref x_withinWorth])), (n, .inr (2, [.int 0, .ref n_kind, .ref n_pay, .ref n_name, .ref n_ways, .ref n_held, .ref n_targets, .ref n_weights]))] U.heap ∧ va_K D vwCl (TY g) U ∧ va_D (fun _ => True) [(x, .inr (11, [.ref tp, .ref n, .ref dr, .ref x_images, .ref x_kept, .ref rd, .ref st, .ref tl, .ref rg, .ref sv, .ref oc, .ref x_tried, .ref lf, .int 0, .ref x_stoppedWays, .ref x_stoppedWorth, .int 0, .ref x_withinWorth])), (n, .inr (2, [.int 0, .ref n_kind, .ref n_pay, .ref n_name, .ref n_ways, .ref n_held, .ref n_targets, .ref n_weights]))] ∧ ZT (va_A [(x, .inr (11, [.ref tp, .ref n, .ref dr, .ref x_images, .ref x_kept, .ref rd, .ref st, .ref tl, .ref rg, .ref sv, .ref oc, .ref x_tried, .ref lf, .int 0, .ref x_stoppedWays, .ref x_stoppedWorth, .int 0, .ref x_withinWorth])), (n, .inr (2, [.int 0, .ref n_kind, .ref n_pay, .ref n_name, .ref n_ways, .ref n_held, .ref n_targets, .ref n_weights]))] sz) U U.heap)) (va_Qi (fun _ (_ : Unit) => False) (fun _ _ => True) (va_A [(x, .inr (11, [.ref tp, .ref n, .ref dr, .ref x_images, .ref x_kept, .ref rd, .ref st, .ref tl, .ref rg, .ref sv, .ref oc, .ref x_tried, .ref lf, .int 0, .ref x_stoppedWays, .ref x_stoppedWorth, .int 0, .ref x_withinWorth])), (n, .inr (2, [.int 0, .ref n_kind, .ref n_pay, .ref n_name, .ref n_ways, .ref n_held, .ref n_targets, .ref n_weights]))] sz)) (vx_X (fun (_ : Unit) => True) (fun E _ _ => E = "java/util/NoSuchElementException") (va_A [(x, .inr (11, [.ref tp, .ref n, .ref dr, .ref x_images, .ref x_kept, .ref rd, .ref st, .ref tl, .ref rg, .ref sv, .ref oc, .ref x_tried, .ref lf, .int 0, .ref x_stoppedWays, .ref x_stoppedWorth, .int 0, .ref x_withinWorth])), (n, .inr (2, [.int 0, .ref n_kind, .ref n_pay, .ref n_name, .ref n_ways, .ref n_held, .ref n_targets, .ref n_weights]))] sz)) 1 6 (va_A [(x, .inr (11, [.ref tp, .ref n, .ref dr, .ref x_images, .ref x_kept, .ref rd, .ref st, .ref tl, .ref rg, .ref sv, .ref oc, .ref x_tried, .ref lf, .int 0, .ref x_stoppedWays, .ref x_stoppedWorth, .int 0, .ref x_withinWorth])), (n, .inr (2, [.int 0, .ref n_kind, .ref n_pay, .ref n_name, .ref n_ways, .ref n_held, .ref n_targets, .ref n_weights]))] sz) := by
  refine vx_ofW (cc := cX11_node) (maxL := 3) (ret := (some .int)) (by decide) rfl ?_
  intro p e s m args below meth c s₁ B hml htab hv
  obtain ⟨rfl, hsz, hP, hK, hD0, hZ⟩ := hv
  have hx := B.exec
  have hb := B.bytes
  have hr := B.returns
  have hts0 := atoms_spec (ws := (.code yX11_node cX11_node 3 (some .int) :: wsL_law)) B.pre
  have hts : ∀ w ∈ wsL_law, w.before _ s = true := fun w h => hts0 w (List.mem_cons_of_mem _ h)
  have hown : s.vm.findClass RX11 = some m.cls := findClass_of_methodNamed B.named
  have hlocks := B.notSynchronized
  subst hsz
  have hD := hD0.self (sz := s.heap.size)
  generalize hAe : va_A [(x, .inr (11, [.ref tp, .ref n, .ref dr, .ref x_images, .ref x_kept, .ref rd, .ref st, .ref tl, .ref rg, .ref sv, .ref oc, .ref x_tried, .ref lf, .int 0, .ref x_stoppedWays, .ref x_stoppedWorth, .int 0, .ref x_withinWorth])), (n, .inr (2, [.int 0, .ref n_kind, .ref n_pay, .ref n_name, .ref n_ways, .ref n_held, .ref n_targets, .ref n_weights]))] s.heap.size = A at hD hZ ⊢
  have hA : ∀ q : Nat, s.heap.size ≤ q → A q := fun q h => by rw [← hAe]; exact Or.inr h
  have hS : va_S A s.heap s.heap [] := va_S.rf
  have hP : va_P D vwCl [(x, .inr (11, [.ref tp, .ref n, .ref dr, .ref x_images, .ref x_kept, .ref rd, .ref st, .ref tl, .ref rg, .ref sv, .ref oc, .ref x_tried, .ref lf, .int 0, .ref x_stoppedWays, .ref x_stoppedWorth, .int 0, .ref x_withinWorth])), (n, .inr (2, [.int 0, .ref n_kind, .ref n_pay, .ref n_name, .ref n_ways, .ref n_held, .ref n_targets, .ref n_weights]))] s.heap := hP
  have hl := lv_entry ([.ref x, .int p0, .int p1]) (n := 3) (Nat.le_of_ble_eq_true rfl)
  rw [lg_entry_eq]
  generalize (lg_sl ([.ref x, .int p0, .int p1]) ++ List.replicate (3 - (lg_sl ([.ref x, .int p0, .int p1])).length) Slot.unset).toArray = ls at hl ⊢
  have hl : lv_has ls 3 [(0, .ref x), (1, .int p0), (2, .int p1)] := hl
  refine lv_aload_n hx hb dX11_node_0 rfl (lv_at hl 0 rfl) ?_
  refine va_get (D := D) (ci := 11) (v := .ref n) (C := RX11) (T := TX11) (N := 18) hx hb hts inlX11 hown hK hP 0 rfl rfl 1 (by decide) (hts (Cond.fieldLink RX11 19 "ChanceRings" "net" "LChanceRings$Net;") qw_114) (fun _ h9 => h9) rfl dX11_node_1 ?_
  refine lv_iload_n hx hb dX11_node_4 rfl (lv_at hl 1 rfl) ?_
  have hPc := hP.sub (ws' := [(n, .inr (2, [.int 0, .ref n_kind, .ref n_pay, .ref n_name, .ref n_ways, .ref n_held, .ref n_targets, .ref n_weights]))]) [1] rfl
  refine vp_callSi (va_Run.run (va_runV (As := [.int p0]) (rest := []) ⟨hx, hb, hml, hown, hts⟩ (c_X2_has l D g n p0 n_kind n_pay n_name n_ways n_held n_targets n_weights) (cwV 1 hts (tz_gV qw_119 qw_2 qw_3 qw_4 qw_5) rfl rfl rfl (by decide +kernel) ⟨Nat.le_of_ble_eq_true rfl, Nat.le_of_ble_eq_true rfl⟩) ⟨tz_blS, va_recv hK hPc (ci := 2) (q0 := 0) rfl rfl, tz_preS hPc hK⟩ rfl rfl hl.1 rfl (lv_room (Nat.le_of_ble_eq_true rfl)) dX11_node_5 ⟨Nat.le_of_ble_eq_true rfl, Nat.le_of_ble_eq_true rfl⟩)) (fun r_399 hw => ?_)
  subst hw
  refine lv_if_eq (tgt := 20) hx hb dX11_node_8 (by decide) (fun _ => ?_) (fun h9 => (h9 (by decide)).elim)
  exact vx_throw0 hx hb hst hown (by decide +kernel) (by decide +kernel) (hts (Cond.classLink RX11 135 "java/util/NoSuchElementException") qw_405) (hts (Cond.initialized "java/util/NoSuchElementException") qw_406) (tx_at hts hZ) tx_good hZ.1 hZ.2.1 hS (by rw [hml]; exact hl.1) dX11_node_20 dX11_node_23 dX11_node_24 dX11_node_27 (fun x hx => (htab x hx).elim) (Nat.le_of_ble_eq_true rfl) (Nat.le_of_ble_eq_true rfl) (Nat.le_of_ble_eq_true rfl) (Nat.le_of_ble_eq_true rfl) hlocks (fun t _ hz hk => ⟨(), trivial, rfl, hz, fun q hq _ => hk q hq⟩) (fun _ h => nomatch h) (Nat.le_of_ble_eq_true rfl) (Nat.le_of_ble_eq_true rfl)
set_option maxHeartbeats 4000000 in
set_option maxRecDepth 100000 in
theorem c_X11_way (l : Launch) (hst : l.stackTraces = false) (D : va_G) (g : Nat → ClassId) (sz : Nat) (x : Nat) (p0 : Int32) (p1 : Int32) (p2 : Int32) (tp : Nat) (n : Nat) (dr : Nat) (x_images : Nat) (x_kept : Nat) (rd : Nat) (st : Nat) (tl : Nat) (rg : Nat) (sv : Nat) (oc : Nat) (x_tried : Nat) (lf : Nat) (x_stoppedWays : Nat) (x_stoppedWorth : Nat) (x_withinWorth : Nat) (n_kind : Nat) (n_pay : Nat) (n_name : Nat) (n_ways : Nat) (n_held : Nat) (n_targets : Nat) (n_weights : Nat) : vx_Met l yX11_way (.code yX11_way cX11_way 4 (some .int) :: wsL_law) ({ frames := 6, cells := 1, slots := 6, locals := 90 }) (va_Pc [.ref x, .int p0, .int p1, .int p2] (fun U => U.heap.size = sz ∧ va_P D vwCl [(x, .inr (11, [.ref tp, .ref n, .ref dr, .ref x_images, .ref x_kept, .ref rd, .ref st, .ref tl, .ref rg, .ref sv, .ref oc, .ref x_tried, .ref lf, .int 0, .ref x_stoppedWays, .ref x_stoppedWorth, .int 0, .ref x_withinWorth])), (n, .inr (2, [.int 0, .ref n_kind, .ref n_pay, .ref n_name, .ref n_ways, .ref n_held, .ref n_targets, .ref n_weights]))] U.heap ∧ va_K D vwCl (TY g) U ∧ va_D (fun _ => True) [(x, .inr (11, [.ref tp, .ref n, .ref dr, .ref x_images, .ref x_kept, .ref rd, .ref st, .ref tl, .ref rg, .ref sv, .ref oc, .ref x_tried, .ref lf, .int 0, .ref x_stoppedWays, .ref x_stoppedWorth, .int 0, .ref x_withinWorth])), (n, .inr (2, [.int 0, .ref n_kind, .ref n_pay, .ref n_name, .ref n_ways, .ref n_held, .ref n_targets, .ref n_weights]))] ∧ ZT (va_A [(x, .inr (11, [.ref tp, .ref n, .ref dr, .ref x_images, .ref x_kept, .ref rd, .ref st, .ref tl, .ref rg, .ref sv, .ref oc, .ref x_tried, .ref lf, .int 0, .ref x_stoppedWays, .ref x_stoppedWorth, .int 0, .ref x_withinWorth])), (n, .inr (2, [.int 0, .ref n_kind, .ref n_pay, .ref n_name, .ref n_ways, .ref n_held, .ref n_targets, .ref n_weights]))] sz) U U.heap)) (va_Qi (fun _ (_ : Unit) => False) (fun _ _ => True) (va_A [(x, .inr (11, [.ref tp, .ref n, .ref dr, .ref x_images, .ref x_kept, .ref rd, .ref st, .ref tl, .ref rg, .ref sv, .ref oc, .ref x_tried, .ref lf, .int 0, .ref x_stoppedWays, .ref x_stoppedWorth, .int 0, .ref x_withinWorth])), (n, .inr (2, [.int 0, .ref n_kind, .ref n_pay, .ref n_name, .ref n_ways, .ref n_held, .ref n_targets, .ref n_weights]))] sz)) (vx_X (fun (_ : Unit) => True) (fun E _ _ => E = "java/util/NoSuchElementException") (va_A [(x, .inr (11, [.ref tp, .ref n, .ref dr, .ref x_images, .ref x_kept, .ref rd, .ref st, .ref tl, .ref rg, .ref sv, .ref oc, .ref x_tried, .ref lf, .int 0, .ref x_stoppedWays, .ref x_stoppedWorth, .int 0, .ref x_withinWorth])), (n, .inr (2, [.int 0, .ref n_kind, .ref n_pay, .ref n_name, .ref n_ways, .ref n_held, .ref n_targets, .ref n_weights]))] sz)) 1 6 (va_A [(x, .inr (11, [.ref tp, .ref n, .ref dr, .ref x_images, .ref x_kept, .ref rd, .ref st, .ref tl, .ref rg, .ref sv, .ref oc, .ref x_tried, .ref lf, .int 0, .ref x_stoppedWays, .ref x_stoppedWorth, .int 0, .ref x_withinWorth])), (n, .inr (2, [.int 0, .ref n_kind, .ref n_pay, .ref n_name, .ref n_ways, .ref n_held, .ref n_targets, .ref n_weights]))] sz) := by
  refine vx_ofW (cc := cX11_way) (maxL := 4) (ret := (some .int)) (by decide) rfl ?_
  intro p e s m args below meth c s₁ B hml htab hv
  obtain ⟨rfl, hsz, hP, hK, hD0, hZ⟩ := hv
  have hx := B.exec
  have hb := B.bytes
  have hr := B.returns
  have hts0 := atoms_spec (ws := (.code yX11_way cX11_way 4 (some .int) :: wsL_law)) B.pre
  have hts : ∀ w ∈ wsL_law, w.before _ s = true := fun w h => hts0 w (List.mem_cons_of_mem _ h)
  have hown : s.vm.findClass RX11 = some m.cls := findClass_of_methodNamed B.named
  have hlocks := B.notSynchronized
  subst hsz
  have hD := hD0.self (sz := s.heap.size)
  generalize hAe : va_A [(x, .inr (11, [.ref tp, .ref n, .ref dr, .ref x_images, .ref x_kept, .ref rd, .ref st, .ref tl, .ref rg, .ref sv, .ref oc, .ref x_tried, .ref lf, .int 0, .ref x_stoppedWays, .ref x_stoppedWorth, .int 0, .ref x_withinWorth])), (n, .inr (2, [.int 0, .ref n_kind, .ref n_pay, .ref n_name, .ref n_ways, .ref n_held, .ref n_targets, .ref n_weights]))] s.heap.size = A at hD hZ ⊢
  have hA : ∀ q : Nat, s.heap.size ≤ q → A q := fun q h => by rw [← hAe]; exact Or.inr h
  have hS : va_S A s.heap s.heap [] := va_S.rf
  have hP : va_P D vwCl [(x, .inr (11, [.ref tp, .ref n, .ref dr, .ref x_images, .ref x_kept, .ref rd, .ref st, .ref tl, .ref rg, .ref sv, .ref oc, .ref x_tried, .ref lf, .int 0, .ref x_stoppedWays, .ref x_stoppedWorth, .int 0, .ref x_withinWorth])), (n, .inr (2, [.int 0, .ref n_kind, .ref n_pay, .ref n_name, .ref n_ways, .ref n_held, .ref n_targets, .ref n_weights]))] s.heap := hP
  have hl := lv_entry ([.ref x, .int p0, .int p1, .int p2]) (n := 4) (Nat.le_of_ble_eq_true rfl)
  rw [lg_entry_eq]
  generalize (lg_sl ([.ref x, .int p0, .int p1, .int p2]) ++ List.replicate (4 - (lg_sl ([.ref x, .int p0, .int p1, .int p2])).length) Slot.unset).toArray = ls at hl ⊢
  have hl : lv_has ls 4 [(0, .ref x), (1, .int p0), (2, .int p1), (3, .int p2)] := hl
  refine lv_aload_n hx hb dX11_way_0 rfl (lv_at hl 0 rfl) ?_
  refine va_get (D := D) (ci := 11) (v := .ref n) (C := RX11) (T := TX11) (N := 18) hx hb hts inlX11 hown hK hP 0 rfl rfl 1 (by decide) (hts (Cond.fieldLink RX11 19 "ChanceRings" "net" "LChanceRings$Net;") qw_114) (fun _ h9 => h9) rfl dX11_way_1 ?_
  refine lv_iload_n hx hb dX11_way_4 rfl (lv_at hl 1 rfl) ?_
  refine lv_iload_n hx hb dX11_way_5 rfl (lv_at hl 2 rfl) ?_
  have hPc := hP.sub (ws' := [(n, .inr (2, [.int 0, .ref n_kind, .ref n_pay, .ref n_name, .ref n_ways, .ref n_held, .ref n_targets, .ref n_weights]))]) [1] rfl
  refine vp_callSi (va_Run.run (va_runV (As := [.int p0, .int p1]) (rest := []) ⟨hx, hb, hml, hown, hts⟩ (c_X2_hasWay l D g n p0 p1 n_kind n_pay n_name n_ways n_held n_targets n_weights) (cwV 2 hts (tz_gV qw_120 qw_121 qw_122 qw_4 qw_123) rfl rfl rfl (by decide +kernel) ⟨Nat.le_of_ble_eq_true rfl, Nat.le_of_ble_eq_true rfl⟩) ⟨tz_blS, va_recv hK hPc (ci := 2) (q0 := 0) rfl rfl, tz_preS hPc hK⟩ rfl rfl hl.1 rfl (lv_room (Nat.le_of_ble_eq_true rfl)) dX11_way_6 ⟨Nat.le_of_ble_eq_true rfl, Nat.le_of_ble_eq_true rfl⟩)) (fun r_400 hw => ?_)
  subst hw
  refine lv_if_eq (tgt := 21) hx hb dX11_way_9 (by decide) (fun _ => ?_) (fun h9 => (h9 (by decide)).elim)
  exact vx_throw0 hx hb hst hown (by decide +kernel) (by decide +kernel) (hts (Cond.classLink RX11 135 "java/util/NoSuchElementException") qw_405) (hts (Cond.initialized "java/util/NoSuchElementException") qw_406) (tx_at hts hZ) tx_good hZ.1 hZ.2.1 hS (by rw [hml]; exact hl.1) dX11_way_21 dX11_way_24 dX11_way_25 dX11_way_28 (fun x hx => (htab x hx).elim) (Nat.le_of_ble_eq_true rfl) (Nat.le_of_ble_eq_true rfl) (Nat.le_of_ble_eq_true rfl) (Nat.le_of_ble_eq_true rfl) hlocks (fun t _ hz hk => ⟨(), trivial, rfl, hz, fun q hq _ => hk q hq⟩) (fun _ h => nomatch h) (Nat.le_of_ble_eq_true rfl) (Nat.le_of_ble_eq_true rfl)
set_option maxHeartbeats 4000000 in
set_option maxRecDepth 100000 in
theorem c_X11_worth (l : Launch) (hst : l.stackTraces = false) (D : va_G) (g : Nat → ClassId) (sz : Nat) (x : Nat) (p0 : Int32) (p1 : Int32) (tp : Nat) (n : Nat) (dr : Nat) (x_images : Nat) (x_kept : Nat) (rd : Nat) (st : Nat) (tl : Nat) (rg : Nat) (sv : Nat) (oc : Nat) (x_tried : Nat) (lf : Nat) (x_stoppedWays : Nat) (x_stoppedWorth : Nat) (x_withinWorth : Nat) (n_kind : Nat) (n_pay : Nat) (n_name : Nat) (n_ways : Nat) (n_held : Nat) (n_targets : Nat) (n_weights : Nat) : vx_Met l yX11_worth (.code yX11_worth cX11_worth 3 (some .long) :: wsL_law) ({ frames := 6, cells := 1, slots := 6, locals := 90 }) (va_Pc [.ref x, .int p0, .int p1] (fun U => U.heap.size = sz ∧ va_P D vwCl [(x, .inr (11, [.ref tp, .ref n, .ref dr, .ref x_images, .ref x_kept, .ref rd, .ref st, .ref tl, .ref rg, .ref sv, .ref oc, .ref x_tried, .ref lf, .int 0, .ref x_stoppedWays, .ref x_stoppedWorth, .int 0, .ref x_withinWorth])), (n, .inr (2, [.int 0, .ref n_kind, .ref n_pay, .ref n_name, .ref n_ways, .ref n_held, .ref n_targets, .ref n_weights]))] U.heap ∧ va_K D vwCl (TY g) U ∧ va_D (fun _ => True) [(x, .inr (11, [.ref tp, .ref n, .ref dr, .ref x_images, .ref x_kept, .ref rd, .ref st, .ref tl, .ref rg, .ref sv, .ref oc, .ref x_tried, .ref lf, .int 0, .ref x_stoppedWays, .ref x_stoppedWorth, .int 0, .ref x_withinWorth])), (n, .inr (2, [.int 0, .ref n_kind, .ref n_pay, .ref n_name, .ref n_ways, .ref n_held, .ref n_targets, .ref n_weights]))] ∧ ZT (va_A [(x, .inr (11, [.ref tp, .ref n, .ref dr, .ref x_images, .ref x_kept, .ref rd, .ref st, .ref tl, .ref rg, .ref sv, .ref oc, .ref x_tried, .ref lf, .int 0, .ref x_stoppedWays, .ref x_stoppedWorth, .int 0, .ref x_withinWorth])), (n, .inr (2, [.int 0, .ref n_kind, .ref n_pay, .ref n_name, .ref n_ways, .ref n_held, .ref n_targets, .ref n_weights]))] sz) U U.heap)) (va_Ql (fun _ (_ : Unit) => False) (fun _ _ => True) (va_A [(x, .inr (11, [.ref tp, .ref n, .ref dr, .ref x_images, .ref x_kept, .ref rd, .ref st, .ref tl, .ref rg, .ref sv, .ref oc, .ref x_tried, .ref lf, .int 0, .ref x_stoppedWays, .ref x_stoppedWorth, .int 0, .ref x_withinWorth])), (n, .inr (2, [.int 0, .ref n_kind, .ref n_pay, .ref n_name, .ref n_ways, .ref n_held, .ref n_targets, .ref n_weights]))] sz)) (vx_X (fun (_ : Unit) => True) (fun E _ _ => E = "java/util/NoSuchElementException") (va_A [(x, .inr (11, [.ref tp, .ref n, .ref dr, .ref x_images, .ref x_kept, .ref rd, .ref st, .ref tl, .ref rg, .ref sv, .ref oc, .ref x_tried, .ref lf, .int 0, .ref x_stoppedWays, .ref x_stoppedWorth, .int 0, .ref x_withinWorth])), (n, .inr (2, [.int 0, .ref n_kind, .ref n_pay, .ref n_name, .ref n_ways, .ref n_held, .ref n_targets, .ref n_weights]))] sz)) 1 6 (va_A [(x, .inr (11, [.ref tp, .ref n, .ref dr, .ref x_images, .ref x_kept, .ref rd, .ref st, .ref tl, .ref rg, .ref sv, .ref oc, .ref x_tried, .ref lf, .int 0, .ref x_stoppedWays, .ref x_stoppedWorth, .int 0, .ref x_withinWorth])), (n, .inr (2, [.int 0, .ref n_kind, .ref n_pay, .ref n_name, .ref n_ways, .ref n_held, .ref n_targets, .ref n_weights]))] sz) := by
  refine vx_ofW (cc := cX11_worth) (maxL := 3) (ret := (some .long)) (by decide) rfl ?_
  intro p e s m args below meth c s₁ B hml htab hv
  obtain ⟨rfl, hsz, hP, hK, hD0, hZ⟩ := hv
  have hx := B.exec
  have hb := B.bytes
  have hr := B.returns
  have hts0 := atoms_spec (ws := (.code yX11_worth cX11_worth 3 (some .long) :: wsL_law)) B.pre
  have hts : ∀ w ∈ wsL_law, w.before _ s = true := fun w h => hts0 w (List.mem_cons_of_mem _ h)
  have hown : s.vm.findClass RX11 = some m.cls := findClass_of_methodNamed B.named
  have hlocks := B.notSynchronized
  subst hsz
  have hD := hD0.self (sz := s.heap.size)
  generalize hAe : va_A [(x, .inr (11, [.ref tp, .ref n, .ref dr, .ref x_images, .ref x_kept, .ref rd, .ref st, .ref tl, .ref rg, .ref sv, .ref oc, .ref x_tried, .ref lf, .int 0, .ref x_stoppedWays, .ref x_stoppedWorth, .int 0, .ref x_withinWorth])), (n, .inr (2, [.int 0, .ref n_kind, .ref n_pay, .ref n_name, .ref n_ways, .ref n_held, .ref n_targets, .ref n_weights]))] s.heap.size = A at hD hZ ⊢
  have hA : ∀ q : Nat, s.heap.size ≤ q → A q := fun q h => by rw [← hAe]; exact Or.inr h
  have hS : va_S A s.heap s.heap [] := va_S.rf
  have hP : va_P D vwCl [(x, .inr (11, [.ref tp, .ref n, .ref dr, .ref x_images, .ref x_kept, .ref rd, .ref st, .ref tl, .ref rg, .ref sv, .ref oc, .ref x_tried, .ref lf, .int 0, .ref x_stoppedWays, .ref x_stoppedWorth, .int 0, .ref x_withinWorth])), (n, .inr (2, [.int 0, .ref n_kind, .ref n_pay, .ref n_name, .ref n_ways, .ref n_held, .ref n_targets, .ref n_weights]))] s.heap := hP
  have hl := lv_entry ([.ref x, .int p0, .int p1]) (n := 3) (Nat.le_of_ble_eq_true rfl)
  rw [lg_entry_eq]
  generalize (lg_sl ([.ref x, .int p0, .int p1]) ++ List.replicate (3 - (lg_sl ([.ref x, .int p0, .int p1])).length) Slot.unset).toArray = ls at hl ⊢
  have hl : lv_has ls 3 [(0, .ref x), (1, .int p0), (2, .int p1)] := hl
  refine lv_aload_n hx hb dX11_worth_0 rfl (lv_at hl 0 rfl) ?_
  refine va_get (D := D) (ci := 11) (v := .ref n) (C := RX11) (T := TX11) (N := 18) hx hb hts inlX11 hown hK hP 0 rfl rfl 1 (by decide) (hts (Cond.fieldLink RX11 19 "ChanceRings" "net" "LChanceRings$Net;") qw_114) (fun _ h9 => h9) rfl dX11_worth_1 ?_
  refine lv_iload_n hx hb dX11_worth_4 rfl (lv_at hl 1 rfl) ?_
  have hPc := hP.sub (ws' := [(n, .inr (2, [.int 0, .ref n_kind, .ref n_pay, .ref n_name, .ref n_ways, .ref n_held, .ref n_targets, .ref n_weights]))]) [1] rfl
  refine vp_callSi (va_Run.run (va_runV (As := [.int p0]) (rest := []) ⟨hx, hb, hml, hown, hts⟩ (c_X2_has l D g n p0 n_kind n_pay n_name n_ways n_held n_targets n_weights) (cwV 1 hts (tz_gV qw_119 qw_2 qw_3 qw_4 qw_5) rfl rfl rfl (by decide +kernel) ⟨Nat.le_of_ble_eq_true rfl, Nat.le_of_ble_eq_true rfl⟩) ⟨tz_blS, va_recv hK hPc (ci := 2) (q0 := 0) rfl rfl, tz_preS hPc hK⟩ rfl rfl hl.1 rfl (lv_room (Nat.le_of_ble_eq_true rfl)) dX11_worth_5 ⟨Nat.le_of_ble_eq_true rfl, Nat.le_of_ble_eq_true rfl⟩)) (fun r_401 hw => ?_)
  subst hw
  refine lv_if_eq (tgt := 20) hx hb dX11_worth_8 (by decide) (fun _ => ?_) (fun h9 => (h9 (by decide)).elim)
  exact vx_throw0 hx hb hst hown (by decide +kernel) (by decide +kernel) (hts (Cond.classLink RX11 135 "java/util/NoSuchElementException") qw_405) (hts (Cond.initialized "java/util/NoSuchElementException") qw_406) (tx_at hts hZ) tx_good hZ.1 hZ.2.1 hS (by rw [hml]; exact hl.1) dX11_worth_20 dX11_worth_23 dX11_worth_24 dX11_worth_27 (fun x hx => (htab x hx).elim) (Nat.le_of_ble_eq_true rfl) (Nat.le_of_ble_eq_true rfl) (Nat.le_of_ble_eq_true rfl) (Nat.le_of_ble_eq_true rfl) hlocks (fun t _ hz hk => ⟨(), trivial, rfl, hz, fun q hq _ => hk q hq⟩) (fun _ h => nomatch h) (Nat.le_of_ble_eq_true rfl) (Nat.le_of_ble_eq_true rfl)
set_option maxHeartbeats 4000000 in
set_option maxRecDepth 100000 in
theorem c_X11_left (l : Launch) (hst : l.stackTraces = false) (D : va_G) (g : Nat → ClassId) (sz : Nat) (x : Nat) (p0 : Int32) (p1 : Int32) (tp : Nat) (n : Nat) (dr : Nat) (x_images : Nat) (x_kept : Nat) (rd : Nat) (st : Nat) (tl : Nat) (rg : Nat) (sv : Nat) (oc : Nat) (x_tried : Nat) (lf : Nat) (x_stoppedWays : Nat) (x_stoppedWorth : Nat) (x_withinWorth : Nat) (n_kind : Nat) (n_pay : Nat) (n_name : Nat) (n_ways : Nat) (n_held : Nat) (n_targets : Nat) (n_weights : Nat) : vx_Met l yX11_left (.code yX11_left cX11_left 3 (some .long) :: wsL_law) ({ frames := 6, cells := 1, slots := 6, locals := 90 }) (va_Pc [.ref x, .int p0, .int p1] (fun U => U.heap.size = sz ∧ va_P D vwCl [(x, .inr (11, [.ref tp, .ref n, .ref dr, .ref x_images, .ref x_kept, .ref rd, .ref st, .ref tl, .ref rg, .ref sv, .ref oc, .ref x_tried, .ref lf, .int 0, .ref x_stoppedWays, .ref x_stoppedWorth, .int 0, .ref x_withinWorth])), (n, .inr (2, [.int 0, .ref n_kind, .ref n_pay, .ref n_name, .ref n_ways, .ref n_held, .ref n_targets, .ref n_weights]))] U.heap ∧ va_K D vwCl (TY g) U ∧ va_D (fun _ => True) [(x, .inr (11, [.ref tp, .ref n, .ref dr, .ref x_images, .ref x_kept, .ref rd, .ref st, .ref tl, .ref rg, .ref sv, .ref oc, .ref x_tried, .ref lf, .int 0, .ref x_stoppedWays, .ref x_stoppedWorth, .int 0, .ref x_withinWorth])), (n, .inr (2, [.int 0, .ref n_kind, .ref n_pay, .ref n_name, .ref n_ways, .ref n_held, .ref n_targets, .ref n_weights]))] ∧ ZT (va_A [(x, .inr (11, [.ref tp, .ref n, .ref dr, .ref x_images, .ref x_kept, .ref rd, .ref st, .ref tl, .ref rg, .ref sv, .ref oc, .ref x_tried, .ref lf, .int 0, .ref x_stoppedWays, .ref x_stoppedWorth, .int 0, .ref x_withinWorth])), (n, .inr (2, [.int 0, .ref n_kind, .ref n_pay, .ref n_name, .ref n_ways, .ref n_held, .ref n_targets, .ref n_weights]))] sz) U U.heap)) (va_Ql (fun _ (_ : Unit) => False) (fun _ _ => True) (va_A [(x, .inr (11, [.ref tp, .ref n, .ref dr, .ref x_images, .ref x_kept, .ref rd, .ref st, .ref tl, .ref rg, .ref sv, .ref oc, .ref x_tried, .ref lf, .int 0, .ref x_stoppedWays, .ref x_stoppedWorth, .int 0, .ref x_withinWorth])), (n, .inr (2, [.int 0, .ref n_kind, .ref n_pay, .ref n_name, .ref n_ways, .ref n_held, .ref n_targets, .ref n_weights]))] sz)) (vx_X (fun (_ : Unit) => True) (fun E _ _ => E = "java/util/NoSuchElementException") (va_A [(x, .inr (11, [.ref tp, .ref n, .ref dr, .ref x_images, .ref x_kept, .ref rd, .ref st, .ref tl, .ref rg, .ref sv, .ref oc, .ref x_tried, .ref lf, .int 0, .ref x_stoppedWays, .ref x_stoppedWorth, .int 0, .ref x_withinWorth])), (n, .inr (2, [.int 0, .ref n_kind, .ref n_pay, .ref n_name, .ref n_ways, .ref n_held, .ref n_targets, .ref n_weights]))] sz)) 1 6 (va_A [(x, .inr (11, [.ref tp, .ref n, .ref dr, .ref x_images, .ref x_kept, .ref rd, .ref st, .ref tl, .ref rg, .ref sv, .ref oc, .ref x_tried, .ref lf, .int 0, .ref x_stoppedWays, .ref x_stoppedWorth, .int 0, .ref x_withinWorth])), (n, .inr (2, [.int 0, .ref n_kind, .ref n_pay, .ref n_name, .ref n_ways, .ref n_held, .ref n_targets, .ref n_weights]))] sz) := by
  refine vx_ofW (cc := cX11_left) (maxL := 3) (ret := (some .long)) (by decide) rfl ?_
  intro p e s m args below meth c s₁ B hml htab hv
  obtain ⟨rfl, hsz, hP, hK, hD0, hZ⟩ := hv
  have hx := B.exec
  have hb := B.bytes
  have hr := B.returns
  have hts0 := atoms_spec (ws := (.code yX11_left cX11_left 3 (some .long) :: wsL_law)) B.pre
  have hts : ∀ w ∈ wsL_law, w.before _ s = true := fun w h => hts0 w (List.mem_cons_of_mem _ h)
  have hown : s.vm.findClass RX11 = some m.cls := findClass_of_methodNamed B.named
  have hlocks := B.notSynchronized
  subst hsz
  have hD := hD0.self (sz := s.heap.size)
  generalize hAe : va_A [(x, .inr (11, [.ref tp, .ref n, .ref dr, .ref x_images, .ref x_kept, .ref rd, .ref st, .ref tl, .ref rg, .ref sv, .ref oc, .ref x_tried, .ref lf, .int 0, .ref x_stoppedWays, .ref x_stoppedWorth, .int 0, .ref x_withinWorth])), (n, .inr (2, [.int 0, .ref n_kind, .ref n_pay, .ref n_name, .ref n_ways, .ref n_held, .ref n_targets, .ref n_weights]))] s.heap.size = A at hD hZ ⊢
  have hA : ∀ q : Nat, s.heap.size ≤ q → A q := fun q h => by rw [← hAe]; exact Or.inr h
  have hS : va_S A s.heap s.heap [] := va_S.rf
  have hP : va_P D vwCl [(x, .inr (11, [.ref tp, .ref n, .ref dr, .ref x_images, .ref x_kept, .ref rd, .ref st, .ref tl, .ref rg, .ref sv, .ref oc, .ref x_tried, .ref lf, .int 0, .ref x_stoppedWays, .ref x_stoppedWorth, .int 0, .ref x_withinWorth])), (n, .inr (2, [.int 0, .ref n_kind, .ref n_pay, .ref n_name, .ref n_ways, .ref n_held, .ref n_targets, .ref n_weights]))] s.heap := hP
  have hl := lv_entry ([.ref x, .int p0, .int p1]) (n := 3) (Nat.le_of_ble_eq_true rfl)
  rw [lg_entry_eq]
  generalize (lg_sl ([.ref x, .int p0, .int p1]) ++ List.replicate (3 - (lg_sl ([.ref x, .int p0, .int p1])).length) Slot.unset).toArray = ls at hl ⊢
  have hl : lv_has ls 3 [(0, .ref x), (1, .int p0), (2, .int p1)] := hl
  refine lv_aload_n hx hb dX11_left_0 rfl (lv_at hl 0 rfl) ?_
  refine va_get (D := D) (ci := 11) (v := .ref n) (C := RX11) (T := TX11) (N := 18) hx hb hts inlX11 hown hK hP 0 rfl rfl 1 (by decide) (hts (Cond.fieldLink RX11 19 "ChanceRings" "net" "LChanceRings$Net;") qw_114) (fun _ h9 => h9) rfl dX11_left_1 ?_
  refine lv_iload_n hx hb dX11_left_4 rfl (lv_at hl 1 rfl) ?_
  have hPc := hP.sub (ws' := [(n, .inr (2, [.int 0, .ref n_kind, .ref n_pay, .ref n_name, .ref n_ways, .ref n_held, .ref n_targets, .ref n_weights]))]) [1] rfl
  refine vp_callSi (va_Run.run (va_runV (As := [.int p0]) (rest := []) ⟨hx, hb, hml, hown, hts⟩ (c_X2_has l D g n p0 n_kind n_pay n_name n_ways n_held n_targets n_weights) (cwV 1 hts (tz_gV qw_119 qw_2 qw_3 qw_4 qw_5) rfl rfl rfl (by decide +kernel) ⟨Nat.le_of_ble_eq_true rfl, Nat.le_of_ble_eq_true rfl⟩) ⟨tz_blS, va_recv hK hPc (ci := 2) (q0 := 0) rfl rfl, tz_preS hPc hK⟩ rfl rfl hl.1 rfl (lv_room (Nat.le_of_ble_eq_true rfl)) dX11_left_5 ⟨Nat.le_of_ble_eq_true rfl, Nat.le_of_ble_eq_true rfl⟩)) (fun r_402 hw => ?_)
  subst hw
  refine lv_if_eq (tgt := 20) hx hb dX11_left_8 (by decide) (fun _ => ?_) (fun h9 => (h9 (by decide)).elim)
  exact vx_throw0 hx hb hst hown (by decide +kernel) (by decide +kernel) (hts (Cond.classLink RX11 135 "java/util/NoSuchElementException") qw_405) (hts (Cond.initialized "java/util/NoSuchElementException") qw_406) (tx_at hts hZ) tx_good hZ.1 hZ.2.1 hS (by rw [hml]; exact hl.1) dX11_left_20 dX11_left_23 dX11_left_24 dX11_left_27 (fun x hx => (htab x hx).elim) (Nat.le_of_ble_eq_true rfl) (Nat.le_of_ble_eq_true rfl) (Nat.le_of_ble_eq_true rfl) (Nat.le_of_ble_eq_true rfl) hlocks (fun t _ hz hk => ⟨(), trivial, rfl, hz, fun q hq _ => hk q hq⟩) (fun _ h => nomatch h) (Nat.le_of_ble_eq_true rfl) (Nat.le_of_ble_eq_true rfl)
set_option maxHeartbeats 4000000 in
set_option maxRecDepth 100000 in
theorem c_X11_stopped (l : Launch) (hst : l.stackTraces = false) (D : va_G) (g : Nat → ClassId) (sz : Nat) (x : Nat) (p0 : Int32) (p1 : Int32) (p2 : Int32) (tp : Nat) (n : Nat) (dr : Nat) (x_images : Nat) (x_kept : Nat) (rd : Nat) (st : Nat) (tl : Nat) (rg : Nat) (sv : Nat) (oc : Nat) (x_tried : Nat) (lf : Nat) (x_stoppedWays : Nat) (x_stoppedWorth : Nat) (x_withinWorth : Nat) (n_kind : Nat) (n_pay : Nat) (n_name : Nat) (n_ways : Nat) (n_held : Nat) (n_targets : Nat) (n_weights : Nat) : vx_Met l yX11_stopped (.code yX11_stopped cX11_stopped 4 (some .long) :: wsL_law) ({ frames := 6, cells := 1, slots := 6, locals := 90 }) (va_Pc [.ref x, .int p0, .int p1, .int p2] (fun U => U.heap.size = sz ∧ va_P D vwCl [(x, .inr (11, [.ref tp, .ref n, .ref dr, .ref x_images, .ref x_kept, .ref rd, .ref st, .ref tl, .ref rg, .ref sv, .ref oc, .ref x_tried, .ref lf, .int 0, .ref x_stoppedWays, .ref x_stoppedWorth, .int 0, .ref x_withinWorth])), (n, .inr (2, [.int 0, .ref n_kind, .ref n_pay, .ref n_name, .ref n_ways, .ref n_held, .ref n_targets, .ref n_weights]))] U.heap ∧ va_K D vwCl (TY g) U ∧ va_D (fun _ => True) [(x, .inr (11, [.ref tp, .ref n, .ref dr, .ref x_images, .ref x_kept, .ref rd, .ref st, .ref tl, .ref rg, .ref sv, .ref oc, .ref x_tried, .ref lf, .int 0, .ref x_stoppedWays, .ref x_stoppedWorth, .int 0, .ref x_withinWorth])), (n, .inr (2, [.int 0, .ref n_kind, .ref n_pay, .ref n_name, .ref n_ways, .ref n_held, .ref n_targets, .ref n_weights]))] ∧ ZT (va_A [(x, .inr (11, [.ref tp, .ref n, .ref dr, .ref x_images, .ref x_kept, .ref rd, .ref st, .ref tl, .ref rg, .ref sv, .ref oc, .ref x_tried, .ref lf, .int 0, .ref x_stoppedWays, .ref x_stoppedWorth, .int 0, .ref x_withinWorth])), (n, .inr (2, [.int 0, .ref n_kind, .ref n_pay, .ref n_name, .ref n_ways, .ref n_held, .ref n_targets, .ref n_weights]))] sz) U U.heap)) (va_Ql (fun _ (_ : Unit) => False) (fun _ _ => True) (va_A [(x, .inr (11, [.ref tp, .ref n, .ref dr, .ref x_images, .ref x_kept, .ref rd, .ref st, .ref tl, .ref rg, .ref sv, .ref oc, .ref x_tried, .ref lf, .int 0, .ref x_stoppedWays, .ref x_stoppedWorth, .int 0, .ref x_withinWorth])), (n, .inr (2, [.int 0, .ref n_kind, .ref n_pay, .ref n_name, .ref n_ways, .ref n_held, .ref n_targets, .ref n_weights]))] sz)) (vx_X (fun (_ : Unit) => True) (fun E _ _ => E = "java/util/NoSuchElementException") (va_A [(x, .inr (11, [.ref tp, .ref n, .ref dr, .ref x_images, .ref x_kept, .ref rd, .ref st, .ref tl, .ref rg, .ref sv, .ref oc, .ref x_tried, .ref lf, .int 0, .ref x_stoppedWays, .ref x_stoppedWorth, .int 0, .ref x_withinWorth])), (n, .inr (2, [.int 0, .ref n_kind, .ref n_pay, .ref n_name, .ref n_ways, .ref n_held, .ref n_targets, .ref n_weights]))] sz)) 1 6 (va_A [(x, .inr (11, [.ref tp, .ref n, .ref dr, .ref x_images, .ref x_kept, .ref rd, .ref st, .ref tl, .ref rg, .ref sv, .ref oc, .ref x_tried, .ref lf, .int 0, .ref x_stoppedWays, .ref x_stoppedWorth, .int 0, .ref x_withinWorth])), (n, .inr (2, [.int 0, .ref n_kind, .ref n_pay, .ref n_name, .ref n_ways, .ref n_held, .ref n_targets, .ref n_weights]))] sz) := by
  refine vx_ofW (cc := cX11_stopped) (maxL := 4) (ret := (some .long)) (by decide) rfl ?_
  intro p e s m args below meth c s₁ B hml htab hv
  obtain ⟨rfl, hsz, hP, hK, hD0, hZ⟩ := hv
  have hx := B.exec
  have hb := B.bytes
  have hr := B.returns
  have hts0 := atoms_spec (ws := (.code yX11_stopped cX11_stopped 4 (some .long) :: wsL_law)) B.pre
  have hts : ∀ w ∈ wsL_law, w.before _ s = true := fun w h => hts0 w (List.mem_cons_of_mem _ h)
  have hown : s.vm.findClass RX11 = some m.cls := findClass_of_methodNamed B.named
  have hlocks := B.notSynchronized
  subst hsz
  have hD := hD0.self (sz := s.heap.size)
  generalize hAe : va_A [(x, .inr (11, [.ref tp, .ref n, .ref dr, .ref x_images, .ref x_kept, .ref rd, .ref st, .ref tl, .ref rg, .ref sv, .ref oc, .ref x_tried, .ref lf, .int 0, .ref x_stoppedWays, .ref x_stoppedWorth, .int 0, .ref x_withinWorth])), (n, .inr (2, [.int 0, .ref n_kind, .ref n_pay, .ref n_name, .ref n_ways, .ref n_held, .ref n_targets, .ref n_weights]))] s.heap.size = A at hD hZ ⊢
  have hA : ∀ q : Nat, s.heap.size ≤ q → A q := fun q h => by rw [← hAe]; exact Or.inr h
  have hS : va_S A s.heap s.heap [] := va_S.rf
  have hP : va_P D vwCl [(x, .inr (11, [.ref tp, .ref n, .ref dr, .ref x_images, .ref x_kept, .ref rd, .ref st, .ref tl, .ref rg, .ref sv, .ref oc, .ref x_tried, .ref lf, .int 0, .ref x_stoppedWays, .ref x_stoppedWorth, .int 0, .ref x_withinWorth])), (n, .inr (2, [.int 0, .ref n_kind, .ref n_pay, .ref n_name, .ref n_ways, .ref n_held, .ref n_targets, .ref n_weights]))] s.heap := hP
  have hl := lv_entry ([.ref x, .int p0, .int p1, .int p2]) (n := 4) (Nat.le_of_ble_eq_true rfl)
  rw [lg_entry_eq]
  generalize (lg_sl ([.ref x, .int p0, .int p1, .int p2]) ++ List.replicate (4 - (lg_sl ([.ref x, .int p0, .int p1, .int p2])).length) Slot.unset).toArray = ls at hl ⊢
  have hl : lv_has ls 4 [(0, .ref x), (1, .int p0), (2, .int p1), (3, .int p2)] := hl
  refine lv_aload_n hx hb dX11_stopped_0 rfl (lv_at hl 0 rfl) ?_
  refine va_get (D := D) (ci := 11) (v := .ref n) (C := RX11) (T := TX11) (N := 18) hx hb hts inlX11 hown hK hP 0 rfl rfl 1 (by decide) (hts (Cond.fieldLink RX11 19 "ChanceRings" "net" "LChanceRings$Net;") qw_114) (fun _ h9 => h9) rfl dX11_stopped_1 ?_
  refine lv_iload_n hx hb dX11_stopped_4 rfl (lv_at hl 1 rfl) ?_
  have hPc := hP.sub (ws' := [(n, .inr (2, [.int 0, .ref n_kind, .ref n_pay, .ref n_name, .ref n_ways, .ref n_held, .ref n_targets, .ref n_weights]))]) [1] rfl
  refine vp_callSi (va_Run.run (va_runV (As := [.int p0]) (rest := []) ⟨hx, hb, hml, hown, hts⟩ (c_X2_has l D g n p0 n_kind n_pay n_name n_ways n_held n_targets n_weights) (cwV 1 hts (tz_gV qw_119 qw_2 qw_3 qw_4 qw_5) rfl rfl rfl (by decide +kernel) ⟨Nat.le_of_ble_eq_true rfl, Nat.le_of_ble_eq_true rfl⟩) ⟨tz_blS, va_recv hK hPc (ci := 2) (q0 := 0) rfl rfl, tz_preS hPc hK⟩ rfl rfl hl.1 rfl (lv_room (Nat.le_of_ble_eq_true rfl)) dX11_stopped_5 ⟨Nat.le_of_ble_eq_true rfl, Nat.le_of_ble_eq_true rfl⟩)) (fun r_403 hw => ?_)
  subst hw
  refine lv_if_eq (tgt := 30) hx hb dX11_stopped_8 (by decide) (fun _ => ?_) (fun h9 => (h9 (by decide)).elim)
  exact vx_throw0 hx hb hst hown (by decide +kernel) (by decide +kernel) (hts (Cond.classLink RX11 135 "java/util/NoSuchElementException") qw_405) (hts (Cond.initialized "java/util/NoSuchElementException") qw_406) (tx_at hts hZ) tx_good hZ.1 hZ.2.1 hS (by rw [hml]; exact hl.1) dX11_stopped_30 dX11_stopped_33 dX11_stopped_34 dX11_stopped_37 (fun x hx => (htab x hx).elim) (Nat.le_of_ble_eq_true rfl) (Nat.le_of_ble_eq_true rfl) (Nat.le_of_ble_eq_true rfl) (Nat.le_of_ble_eq_true rfl) hlocks (fun t _ hz hk => ⟨(), trivial, rfl, hz, fun q hq _ => hk q hq⟩) (fun _ h => nomatch h) (Nat.le_of_ble_eq_true rfl) (Nat.le_of_ble_eq_true rfl)
set_option maxHeartbeats 4000000 in
set_option maxRecDepth 100000 in
theorem c_X11_within (l : Launch) (hst : l.stackTraces = false) (D : va_G) (g : Nat → ClassId) (sz : Nat) (x : Nat) (p0 : Int32) (p1 : Int32) (p2 : Int32) (tp : Nat) (n : Nat) (dr : Nat) (x_images : Nat) (x_kept : Nat) (rd : Nat) (st : Nat) (tl : Nat) (rg : Nat) (sv : Nat) (oc : Nat) (x_tried : Nat) (lf : Nat) (x_stoppedWays : Nat) (x_stoppedWorth : Nat) (x_withinWorth : Nat) (n_kind : Nat) (n_pay : Nat) (n_name : Nat) (n_ways : Nat) (n_held : Nat) (n_targets : Nat) (n_weights : Nat) : vx_Met l yX11_within (.code yX11_within cX11_within 4 (some .long) :: wsL_law) ({ frames := 6, cells := 1, slots := 6, locals := 90 }) (va_Pc [.ref x, .int p0, .int p1, .int p2] (fun U => U.heap.size = sz ∧ va_P D vwCl [(x, .inr (11, [.ref tp, .ref n, .ref dr, .ref x_images, .ref x_kept, .ref rd, .ref st, .ref tl, .ref rg, .ref sv, .ref oc, .ref x_tried, .ref lf, .int 0, .ref x_stoppedWays, .ref x_stoppedWorth, .int 0, .ref x_withinWorth])), (n, .inr (2, [.int 0, .ref n_kind, .ref n_pay, .ref n_name, .ref n_ways, .ref n_held, .ref n_targets, .ref n_weights]))] U.heap ∧ va_K D vwCl (TY g) U ∧ va_D (fun _ => True) [(x, .inr (11, [.ref tp, .ref n, .ref dr, .ref x_images, .ref x_kept, .ref rd, .ref st, .ref tl, .ref rg, .ref sv, .ref oc, .ref x_tried, .ref lf, .int 0, .ref x_stoppedWays, .ref x_stoppedWorth, .int 0, .ref x_withinWorth])), (n, .inr (2, [.int 0, .ref n_kind, .ref n_pay, .ref n_name, .ref n_ways, .ref n_held, .ref n_targets, .ref n_weights]))] ∧ ZT (va_A [(x, .inr (11, [.ref tp, .ref n, .ref dr, .ref x_images, .ref x_kept, .ref rd, .ref st, .ref tl, .ref rg, .ref sv, .ref oc, .ref x_tried, .ref lf, .int 0, .ref x_stoppedWays, .ref x_stoppedWorth, .int 0, .ref x_withinWorth])), (n, .inr (2, [.int 0, .ref n_kind, .ref n_pay, .ref n_name, .ref n_ways, .ref n_held, .ref n_targets, .ref n_weights]))] sz) U U.heap)) (va_Ql (fun _ (_ : Unit) => False) (fun _ _ => True) (va_A [(x, .inr (11, [.ref tp, .ref n, .ref dr, .ref x_images, .ref x_kept, .ref rd, .ref st, .ref tl, .ref rg, .ref sv, .ref oc, .ref x_tried, .ref lf, .int 0, .ref x_stoppedWays, .ref x_stoppedWorth, .int 0, .ref x_withinWorth])), (n, .inr (2, [.int 0, .ref n_kind, .ref n_pay, .ref n_name, .ref n_ways, .ref n_held, .ref n_targets, .ref n_weights]))] sz)) (vx_X (fun (_ : Unit) => True) (fun E _ _ => E = "java/util/NoSuchElementException") (va_A [(x, .inr (11, [.ref tp, .ref n, .ref dr, .ref x_images, .ref x_kept, .ref rd, .ref st, .ref tl, .ref rg, .ref sv, .ref oc, .ref x_tried, .ref lf, .int 0, .ref x_stoppedWays, .ref x_stoppedWorth, .int 0, .ref x_withinWorth])), (n, .inr (2, [.int 0, .ref n_kind, .ref n_pay, .ref n_name, .ref n_ways, .ref n_held, .ref n_targets, .ref n_weights]))] sz)) 1 6 (va_A [(x, .inr (11, [.ref tp, .ref n, .ref dr, .ref x_images, .ref x_kept, .ref rd, .ref st, .ref tl, .ref rg, .ref sv, .ref oc, .ref x_tried, .ref lf, .int 0, .ref x_stoppedWays, .ref x_stoppedWorth, .int 0, .ref x_withinWorth])), (n, .inr (2, [.int 0, .ref n_kind, .ref n_pay, .ref n_name, .ref n_ways, .ref n_held, .ref n_targets, .ref n_weights]))] sz) := by
  refine vx_ofW (cc := cX11_within) (maxL := 4) (ret := (some .long)) (by decide) rfl ?_
  intro p e s m args below meth c s₁ B hml htab hv
  obtain ⟨rfl, hsz, hP, hK, hD0, hZ⟩ := hv
  have hx := B.exec
  have hb := B.bytes
  have hr := B.returns
  have hts0 := atoms_spec (ws := (.code yX11_within cX11_within 4 (some .long) :: wsL_law)) B.pre
  have hts : ∀ w ∈ wsL_law, w.before _ s = true := fun w h => hts0 w (List.mem_cons_of_mem _ h)
  have hown : s.vm.findClass RX11 = some m.cls := findClass_of_methodNamed B.named
  have hlocks := B.notSynchronized
  subst hsz
  have hD := hD0.self (sz := s.heap.size)
  generalize hAe : va_A [(x, .inr (11, [.ref tp, .ref n, .ref dr, .ref x_images, .ref x_kept, .ref rd, .ref st, .ref tl, .ref rg, .ref sv, .ref oc, .ref x_tried, .ref lf, .int 0, .ref x_stoppedWays, .ref x_stoppedWorth, .int 0, .ref x_withinWorth])), (n, .inr (2, [.int 0, .ref n_kind, .ref n_pay, .ref n_name, .ref n_ways, .ref n_held, .ref n_targets, .ref n_weights]))] s.heap.size = A at hD hZ ⊢
  have hA : ∀ q : Nat, s.heap.size ≤ q → A q := fun q h => by rw [← hAe]; exact Or.inr h
  have hS : va_S A s.heap s.heap [] := va_S.rf
  have hP : va_P D vwCl [(x, .inr (11, [.ref tp, .ref n, .ref dr, .ref x_images, .ref x_kept, .ref rd, .ref st, .ref tl, .ref rg, .ref sv, .ref oc, .ref x_tried, .ref lf, .int 0, .ref x_stoppedWays, .ref x_stoppedWorth, .int 0, .ref x_withinWorth])), (n, .inr (2, [.int 0, .ref n_kind, .ref n_pay, .ref n_name, .ref n_ways, .ref n_held, .ref n_targets, .ref n_weights]))] s.heap := hP
  have hl := lv_entry ([.ref x, .int p0, .int p1, .int p2]) (n := 4) (Nat.le_of_ble_eq_true rfl)
  rw [lg_entry_eq]
  generalize (lg_sl ([.ref x, .int p0, .int p1, .int p2]) ++ List.replicate (4 - (lg_sl ([.ref x, .int p0, .int p1, .int p2])).length) Slot.unset).toArray = ls at hl ⊢
  have hl : lv_has ls 4 [(0, .ref x), (1, .int p0), (2, .int p1), (3, .int p2)] := hl
  refine lv_aload_n hx hb dX11_within_0 rfl (lv_at hl 0 rfl) ?_
  refine va_get (D := D) (ci := 11) (v := .ref n) (C := RX11) (T := TX11) (N := 18) hx hb hts inlX11 hown hK hP 0 rfl rfl 1 (by decide) (hts (Cond.fieldLink RX11 19 "ChanceRings" "net" "LChanceRings$Net;") qw_114) (fun _ h9 => h9) rfl dX11_within_1 ?_
  refine lv_iload_n hx hb dX11_within_4 rfl (lv_at hl 1 rfl) ?_
  have hPc := hP.sub (ws' := [(n, .inr (2, [.int 0, .ref n_kind, .ref n_pay, .ref n_name, .ref n_ways, .ref n_held, .ref n_targets, .ref n_weights]))]) [1] rfl
  refine vp_callSi (va_Run.run (va_runV (As := [.int p0]) (rest := []) ⟨hx, hb, hml, hown, hts⟩ (c_X2_has l D g n p0 n_kind n_pay n_name n_ways n_held n_targets n_weights) (cwV 1 hts (tz_gV qw_119 qw_2 qw_3 qw_4 qw_5) rfl rfl rfl (by decide +kernel) ⟨Nat.le_of_ble_eq_true rfl, Nat.le_of_ble_eq_true rfl⟩) ⟨tz_blS, va_recv hK hPc (ci := 2) (q0 := 0) rfl rfl, tz_preS hPc hK⟩ rfl rfl hl.1 rfl (lv_room (Nat.le_of_ble_eq_true rfl)) dX11_within_5 ⟨Nat.le_of_ble_eq_true rfl, Nat.le_of_ble_eq_true rfl⟩)) (fun r_404 hw => ?_)
  subst hw
  refine lv_if_eq (tgt := 30) hx hb dX11_within_8 (by decide) (fun _ => ?_) (fun h9 => (h9 (by decide)).elim)
  exact vx_throw0 hx hb hst hown (by decide +kernel) (by decide +kernel) (hts (Cond.classLink RX11 135 "java/util/NoSuchElementException") qw_405) (hts (Cond.initialized "java/util/NoSuchElementException") qw_406) (tx_at hts hZ) tx_good hZ.1 hZ.2.1 hS (by rw [hml]; exact hl.1) dX11_within_30 dX11_within_33 dX11_within_34 dX11_within_37 (fun x hx => (htab x hx).elim) (Nat.le_of_ble_eq_true rfl) (Nat.le_of_ble_eq_true rfl) (Nat.le_of_ble_eq_true rfl) (Nat.le_of_ble_eq_true rfl) hlocks (fun t _ hz hk => ⟨(), trivial, rfl, hz, fun q hq _ => hk q hq⟩) (fun _ h => nomatch h) (Nat.le_of_ble_eq_true rfl) (Nat.le_of_ble_eq_true rfl)
set_option maxHeartbeats 4000000 in
set_option maxRecDepth 100000 in
theorem c_X11_moves (l : Launch) (hst : l.stackTraces = false) (D : va_G) (g : Nat → ClassId) (sz : Nat) (x : Nat) (p0 : Int32) (p1 : Int32) (tp : Nat) (n : Nat) (dr : Nat) (x_images : Nat) (x_kept : Nat) (rd : Nat) (st : Nat) (tl : Nat) (rg : Nat) (sv : Nat) (oc : Nat) (x_tried : Nat) (lf : Nat) (x_stoppedWays : Nat) (x_stoppedWorth : Nat) (x_withinWorth : Nat) (n_kind : Nat) (n_pay : Nat) (n_name : Nat) (n_ways : Nat) (n_held : Nat) (n_targets : Nat) (n_weights : Nat) : vx_Met l yX11_moves (.code yX11_moves cX11_moves 3 (some .long) :: wsL_law) ({ frames := 6, cells := 1, slots := 6, locals := 90 }) (va_Pc [.ref x, .int p0, .int p1] (fun U => U.heap.size = sz ∧ va_P D vwCl [(x, .inr (11, [.ref tp, .ref n, .ref dr, .ref x_images, .ref x_kept, .ref rd, .ref st, .ref tl, .ref rg, .ref sv, .ref oc, .ref x_tried, .ref lf, .int 0, .ref x_stoppedWays, .ref x_stoppedWorth, .int 0, .ref x_withinWorth])), (n, .inr (2, [.int 0, .ref n_kind, .ref n_pay, .ref n_name, .ref n_ways, .ref n_held, .ref n_targets, .ref n_weights]))] U.heap ∧ va_K D vwCl (TY g) U ∧ va_D (fun _ => True) [(x, .inr (11, [.ref tp, .ref n, .ref dr, .ref x_images, .ref x_kept, .ref rd, .ref st, .ref tl, .ref rg, .ref sv, .ref oc, .ref x_tried, .ref lf, .int 0, .ref x_stoppedWays, .ref x_stoppedWorth, .int 0, .ref x_withinWorth])), (n, .inr (2, [.int 0, .ref n_kind, .ref n_pay, .ref n_name, .ref n_ways, .ref n_held, .ref n_targets, .ref n_weights]))] ∧ ZT (va_A [(x, .inr (11, [.ref tp, .ref n, .ref dr, .ref x_images, .ref x_kept, .ref rd, .ref st, .ref tl, .ref rg, .ref sv, .ref oc, .ref x_tried, .ref lf, .int 0, .ref x_stoppedWays, .ref x_stoppedWorth, .int 0, .ref x_withinWorth])), (n, .inr (2, [.int 0, .ref n_kind, .ref n_pay, .ref n_name, .ref n_ways, .ref n_held, .ref n_targets, .ref n_weights]))] sz) U U.heap)) (va_Ql (fun _ (_ : Unit) => False) (fun _ _ => True) (va_A [(x, .inr (11, [.ref tp, .ref n, .ref dr, .ref x_images, .ref x_kept, .ref rd, .ref st, .ref tl, .ref rg, .ref sv, .ref oc, .ref x_tried, .ref lf, .int 0, .ref x_stoppedWays, .ref x_stoppedWorth, .int 0, .ref x_withinWorth])), (n, .inr (2, [.int 0, .ref n_kind, .ref n_pay, .ref n_name, .ref n_ways, .ref n_held, .ref n_targets, .ref n_weights]))] sz)) (vx_X (fun (_ : Unit) => True) (fun E _ _ => E = "java/util/NoSuchElementException") (va_A [(x, .inr (11, [.ref tp, .ref n, .ref dr, .ref x_images, .ref x_kept, .ref rd, .ref st, .ref tl, .ref rg, .ref sv, .ref oc, .ref x_tried, .ref lf, .int 0, .ref x_stoppedWays, .ref x_stoppedWorth, .int 0, .ref x_withinWorth])), (n, .inr (2, [.int 0, .ref n_kind, .ref n_pay, .ref n_name, .ref n_ways, .ref n_held, .ref n_targets, .ref n_weights]))] sz)) 1 6 (va_A [(x, .inr (11, [.ref tp, .ref n, .ref dr, .ref x_images, .ref x_kept, .ref rd, .ref st, .ref tl, .ref rg, .ref sv, .ref oc, .ref x_tried, .ref lf, .int 0, .ref x_stoppedWays, .ref x_stoppedWorth, .int 0, .ref x_withinWorth])), (n, .inr (2, [.int 0, .ref n_kind, .ref n_pay, .ref n_name, .ref n_ways, .ref n_held, .ref n_targets, .ref n_weights]))] sz) := by
  refine vx_ofW (cc := cX11_moves) (maxL := 3) (ret := (some .long)) (by decide) rfl ?_
  intro p e s m args below meth c s₁ B hml htab hv
  obtain ⟨rfl, hsz, hP, hK, hD0, hZ⟩ := hv
  have hx := B.exec
  have hb := B.bytes
  have hr := B.returns
  have hts0 := atoms_spec (ws := (.code yX11_moves cX11_moves 3 (some .long) :: wsL_law)) B.pre
  have hts : ∀ w ∈ wsL_law, w.before _ s = true := fun w h => hts0 w (List.mem_cons_of_mem _ h)
  have hown : s.vm.findClass RX11 = some m.cls := findClass_of_methodNamed B.named
  have hlocks := B.notSynchronized
  subst hsz
  have hD := hD0.self (sz := s.heap.size)
  generalize hAe : va_A [(x, .inr (11, [.ref tp, .ref n, .ref dr, .ref x_images, .ref x_kept, .ref rd, .ref st, .ref tl, .ref rg, .ref sv, .ref oc, .ref x_tried, .ref lf, .int 0, .ref x_stoppedWays, .ref x_stoppedWorth, .int 0, .ref x_withinWorth])), (n, .inr (2, [.int 0, .ref n_kind, .ref n_pay, .ref n_name, .ref n_ways, .ref n_held, .ref n_targets, .ref n_weights]))] s.heap.size = A at hD hZ ⊢
  have hA : ∀ q : Nat, s.heap.size ≤ q → A q := fun q h => by rw [← hAe]; exact Or.inr h
  have hS : va_S A s.heap s.heap [] := va_S.rf
  have hP : va_P D vwCl [(x, .inr (11, [.ref tp, .ref n, .ref dr, .ref x_images, .ref x_kept, .ref rd, .ref st, .ref tl, .ref rg, .ref sv, .ref oc, .ref x_tried, .ref lf, .int 0, .ref x_stoppedWays, .ref x_stoppedWorth, .int 0, .ref x_withinWorth])), (n, .inr (2, [.int 0, .ref n_kind, .ref n_pay, .ref n_name, .ref n_ways, .ref n_held, .ref n_targets, .ref n_weights]))] s.heap := hP
  have hl := lv_entry ([.ref x, .int p0, .int p1]) (n := 3) (Nat.le_of_ble_eq_true rfl)
  rw [lg_entry_eq]
  generalize (lg_sl ([.ref x, .int p0, .int p1]) ++ List.replicate (3 - (lg_sl ([.ref x, .int p0, .int p1])).length) Slot.unset).toArray = ls at hl ⊢
  have hl : lv_has ls 3 [(0, .ref x), (1, .int p0), (2, .int p1)] := hl
  refine lv_aload_n hx hb dX11_moves_0 rfl (lv_at hl 0 rfl) ?_
  refine va_get (D := D) (ci := 11) (v := .ref n) (C := RX11) (T := TX11) (N := 18) hx hb hts inlX11 hown hK hP 0 rfl rfl 1 (by decide) (hts (Cond.fieldLink RX11 19 "ChanceRings" "net" "LChanceRings$Net;") qw_114) (fun _ h9 => h9) rfl dX11_moves_1 ?_
  refine lv_iload_n hx hb dX11_moves_4 rfl (lv_at hl 1 rfl) ?_
  have hPc := hP.sub (ws' := [(n, .inr (2, [.int 0, .ref n_kind, .ref n_pay, .ref n_name, .ref n_ways, .ref n_held, .ref n_targets, .ref n_weights]))]) [1] rfl
  refine vp_callSi (va_Run.run (va_runV (As := [.int p0]) (rest := []) ⟨hx, hb, hml, hown, hts⟩ (c_X2_has l D g n p0 n_kind n_pay n_name n_ways n_held n_targets n_weights) (cwV 1 hts (tz_gV qw_119 qw_2 qw_3 qw_4 qw_5) rfl rfl rfl (by decide +kernel) ⟨Nat.le_of_ble_eq_true rfl, Nat.le_of_ble_eq_true rfl⟩) ⟨tz_blS, va_recv hK hPc (ci := 2) (q0 := 0) rfl rfl, tz_preS hPc hK⟩ rfl rfl hl.1 rfl (lv_room (Nat.le_of_ble_eq_true rfl)) dX11_moves_5 ⟨Nat.le_of_ble_eq_true rfl, Nat.le_of_ble_eq_true rfl⟩)) (fun r_405 hw => ?_)
  subst hw
  refine lv_if_eq (tgt := 20) hx hb dX11_moves_8 (by decide) (fun _ => ?_) (fun h9 => (h9 (by decide)).elim)
  exact vx_throw0 hx hb hst hown (by decide +kernel) (by decide +kernel) (hts (Cond.classLink RX11 135 "java/util/NoSuchElementException") qw_405) (hts (Cond.initialized "java/util/NoSuchElementException") qw_406) (tx_at hts hZ) tx_good hZ.1 hZ.2.1 hS (by rw [hml]; exact hl.1) dX11_moves_20 dX11_moves_23 dX11_moves_24 dX11_moves_27 (fun x hx => (htab x hx).elim) (Nat.le_of_ble_eq_true rfl) (Nat.le_of_ble_eq_true rfl) (Nat.le_of_ble_eq_true rfl) (Nat.le_of_ble_eq_true rfl) hlocks (fun t _ hz hk => ⟨(), trivial, rfl, hz, fun q hq _ => hk q hq⟩) (fun _ h => nomatch h) (Nat.le_of_ble_eq_true rfl) (Nat.le_of_ble_eq_true rfl)
