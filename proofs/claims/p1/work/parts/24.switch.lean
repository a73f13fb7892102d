theorem qw_845 : Cond.instantiable RX11 18 ∈ wsL_law := tseg_1 (by decide +kernel) (List.mem_of_getElem? (i := 24) (by decide +kernel))
theorem qw_846 : Cond.instantiable RX12 35 ∈ wsL_law := tseg_5 (by decide +kernel) (List.mem_of_getElem? (i := 125) (by decide +kernel))
theorem dL_law_33 : decode cL_law 33 = .ok (.aload_n 0, 1) := by decide +kernel
theorem dL_law_34 : decode cL_law 34 = .ok (.iload 4, 2) := by decide +kernel
theorem dL_law_36 : decode cL_law 36 = .ok (.iaload, 1) := by decide +kernel
theorem dL_law_37 : decode cL_law 37 = .ok (.bipush 63, 2) := by decide +kernel
theorem dL_law_39 : decode cL_law 39 = .ok (.iand, 1) := by decide +kernel
theorem dL_law_40 : decode cL_law 40 = .ok (.tableswitch 1435 0 34 #[156, 229, 254, 267, 280, 348, 428, 495, 520, 545, 570, 637, 650, 663, 700, 725, 774, 811, 890, 969, 1006, 1019, 1044, 1111, 1148, 1173, 1186, 1199, 1248, 1309, 1322, 1347, 1360, 1385, 1410], 156) := by decide +kernel
set_option maxHeartbeats 4000000 in
set_option maxRecDepth 100000 in
theorem law_switch {p : Program} {l : Launch} {e : Env} {s : State} {m : MethodId} {below : List Frame} {meth : Method} {c : Code} {b : Nat} {xs : Nat → Int32} {A : Nat → Prop} {L : Nat} {D : va_G} {g : Nat → ClassId} (x : Nat) (mm : Nat) (oa : Nat) (tp : Nat) (n : Nat) (dr : Nat) (x_images : Nat) (x_kept : Nat) (rd : Nat) (st : Nat) (tl : Nat) (rg : Nat) (sv : Nat) (oc : Nat) (x_tried : Nat) (lf : Nat) (x_stoppedWays : Nat) (x_stoppedWorth : Nat) (x_withinWorth : Nat) (tp_bytes : Nat) (n_kind : Nat) (n_pay : Nat) (n_name : Nat) (n_ways : Nat) (n_held : Nat) (n_targets : Nat) (n_weights : Nat) (dr_kind : Nat) (dr_pay : Nat) (dr_name : Nat) (dr_ways : Nat) (dr_held : Nat) (dr_targets : Nat) (dr_weights : Nat) (i0 : Nat) (i1 : Nat) (i0_kind : Nat) (i0_pay : Nat) (i0_name : Nat) (i0_ways : Nat) (i0_held : Nat) (i0_targets : Nat) (i0_weights : Nat) (i1_kind : Nat) (i1_pay : Nat) (i1_name : Nat) (i1_ways : Nat) (i1_held : Nat) (i1_targets : Nat) (i1_weights : Nat) (rd_kindWords : Nat) (ww : Int32) (st_what : Nat) (st_node : Nat) (st_index : Nat) (st_before : Nat) (tl_bytes : Nat) (co : Nat) (sv_keep : Nat) (sv_scaled : Nat) (eq : Nat) (co_place : Nat) (eq_rows : Nat) (eq_right : Nat) (rr : Nat → Nat) (oc_plan : Nat) (wo : Nat) (le : Nat) (oc_reach : Nat) (oc_ringBits : Nat) (wo_part : Nat) (le_part : Nat) (lf_part : Nat) (m_s : Nat) (m_spare : Nat) (m_kept : Nat) (m_undone : Nat) (m_triedWay : Nat) (m_isKept : Nat) (m_tape : Nat) (m_letters : Nat) (m_choice : Nat) (m_row : Nat) (m_up : Nat) (m_low : Nat) (m_m : Nat) (m_bestUp : Nat) (m_bestLow : Nat) (m_replyUp : Nat) (m_replyLow : Nat) (m_worthUp : Nat) (m_worthLow : Nat) (m_bestWay : Nat) (m_told : Nat) (hL : L ≤ 6) (hst : l.stackTraces = false) (C0 : lw_At p s m meth c b L xs) (hA : ∀ q : Nat, s.heap.size ≤ q → A q) (hAl : ∀ q : Nat, A q → s.heap.size ≤ q) (hbA : ¬ A b) (hK : va_K D vwCl (TY g) s) (hZ : ZT A s s.heap) : ∀ (H : Heap) (locs : List Loc) (ls : Array Slot), va_P D vwCl ((x, .inr (11, [.ref tp, .ref n, .ref dr, .ref x_images, .ref x_kept, .ref rd, .ref st, .ref tl, .ref rg, .ref sv, .ref oc, .ref x_tried, .ref lf, .int 0, .ref x_stoppedWays, .ref x_stoppedWorth, .int 0, .ref x_withinWorth])) :: (tp, .inr (8, [.ref tp_bytes, .int 0])) :: (tp_bytes, .inl (g 0, 440, .inl (fun _ => 0))) :: (n, .inr (2, [.int 0, .ref n_kind, .ref n_pay, .ref n_name, .ref n_ways, .ref n_held, .ref n_targets, .ref n_weights])) :: (n_kind, .inl (g 0, 12, .inl (fun _ => 0))) :: (n_pay, .inl (g 0, 12, .inl (fun _ => 0))) :: (n_name, .inl (g 0, 12, .inl (fun _ => 0))) :: (n_ways, .inl (g 0, 12, .inl (fun _ => 0))) :: (n_held, .inl (g 0, 12, .inl (fun _ => 0))) :: (n_targets, .inl (g 0, 36, .inl (fun _ => 0))) :: (n_weights, .inl (g 0, 36, .inl (fun _ => 0))) :: (dr, .inr (2, [.int 0, .ref dr_kind, .ref dr_pay, .ref dr_name, .ref dr_ways, .ref dr_held, .ref dr_targets, .ref dr_weights])) :: (dr_kind, .inl (g 0, 12, .inl (fun _ => 0))) :: (dr_pay, .inl (g 0, 12, .inl (fun _ => 0))) :: (dr_name, .inl (g 0, 12, .inl (fun _ => 0))) :: (dr_ways, .inl (g 0, 12, .inl (fun _ => 0))) :: (dr_held, .inl (g 0, 12, .inl (fun _ => 0))) :: (dr_targets, .inl (g 0, 36, .inl (fun _ => 0))) :: (dr_weights, .inl (g 0, 36, .inl (fun _ => 0))) :: (x_images, .inl (g 4, 2, .inr (.inr (.inr (.inr (va_up (va_up (fun _ => none) 0 (some i0)) 1 (some i1))))))) :: (i0, .inr (2, [.int 0, .ref i0_kind, .ref i0_pay, .ref i0_name, .ref i0_ways, .ref i0_held, .ref i0_targets, .ref i0_weights])) :: (i0_kind, .inl (g 0, 12, .inl (fun _ => 0))) :: (i0_pay, .inl (g 0, 12, .inl (fun _ => 0))) :: (i0_name, .inl (g 0, 12, .inl (fun _ => 0))) :: (i0_ways, .inl (g 0, 12, .inl (fun _ => 0))) :: (i0_held, .inl (g 0, 12, .inl (fun _ => 0))) :: (i0_targets, .inl (g 0, 36, .inl (fun _ => 0))) :: (i0_weights, .inl (g 0, 36, .inl (fun _ => 0))) :: (i1, .inr (2, [.int 0, .ref i1_kind, .ref i1_pay, .ref i1_name, .ref i1_ways, .ref i1_held, .ref i1_targets, .ref i1_weights])) :: (i1_kind, .inl (g 0, 12, .inl (fun _ => 0))) :: (i1_pay, .inl (g 0, 12, .inl (fun _ => 0))) :: (i1_name, .inl (g 0, 12, .inl (fun _ => 0))) :: (i1_ways, .inl (g 0, 12, .inl (fun _ => 0))) :: (i1_held, .inl (g 0, 12, .inl (fun _ => 0))) :: (i1_targets, .inl (g 0, 36, .inl (fun _ => 0))) :: (i1_weights, .inl (g 0, 36, .inl (fun _ => 0))) :: (x_kept, .inl (g 3, 2, .inl (fun _ => 0))) :: (rd, .inr (4, [.ref tp, .ref dr, .ref rd_kindWords, .int ww, .int 0, .int 0, .int 0, .int 0, .int 0, .int 0])) :: (st, .inr (7, [.ref st_what, .ref st_node, .ref st_index, .ref st_before, .int 0])) :: (tl, .inr (9, [.ref tl_bytes, .int 0])) :: (rg, .inr (5, [.ref n])) :: (sv, .inr (6, [.ref n, .ref co, .ref sv_keep, .ref sv_scaled])) :: (co, .inr (0, [.ref n, .ref eq, .ref co_place])) :: (eq, .inr (1, [.ref eq_rows, .ref eq_right, .long 0])) :: (eq_right, .inl (g 1, 8, .inr (.inl (fun _ => 0)))) :: (eq_rows, .inl (g 5, 8, .inr (.inr (.inr (.inr (fun i => if i < 8 then some (rr i) else none)))))) :: ((rr 0), .inl (g 1, 8, .inr (.inl (fun _ => 0)))) :: ((rr 1), .inl (g 1, 8, .inr (.inl (fun _ => 0)))) :: ((rr 2), .inl (g 1, 8, .inr (.inl (fun _ => 0)))) :: ((rr 3), .inl (g 1, 8, .inr (.inl (fun _ => 0)))) :: ((rr 4), .inl (g 1, 8, .inr (.inl (fun _ => 0)))) :: ((rr 5), .inl (g 1, 8, .inr (.inl (fun _ => 0)))) :: ((rr 6), .inl (g 1, 8, .inr (.inl (fun _ => 0)))) :: ((rr 7), .inl (g 1, 8, .inr (.inl (fun _ => 0)))) :: (oc, .inr (3, [.ref n, .ref sv, .ref oc_plan, .ref wo, .ref le, .ref oc_reach, .ref oc_ringBits, .int 0, .int 0, .int 0])) :: (wo, .inr (10, [.ref wo_part, .long 1])) :: (le, .inr (10, [.ref le_part, .long 1])) :: (lf, .inr (10, [.ref lf_part, .long 1])) :: (mm, .inr (12, (.int 0 :: .ref m_s :: .ref m_spare :: .ref m_kept :: .ref m_undone :: .ref m_triedWay :: .ref m_isKept :: .int 0 :: .ref m_tape :: .int 0 :: .int 0 :: .int 0 :: .int 0 :: .int 0 :: .int 0 :: .int 0 :: .int 0 :: .int 0 :: .ref m_letters :: .int 0 :: .ref m_choice :: .ref m_row :: .ref m_up :: .ref m_low :: .ref m_m :: .ref m_bestUp :: .ref m_bestLow :: .ref m_replyUp :: .ref m_replyLow :: .ref m_worthUp :: .ref m_worthLow :: .ref m_bestWay :: .int 0 :: .ref m_told :: .int 0 :: []))) :: (m_s, .inl (g 0, 193, .inl (fun _ => 0))) :: (m_spare, .inl (g 0, 193, .inl (fun _ => 0))) :: (m_kept, .inl (g 0, 386, .inl (fun _ => 0))) :: (m_triedWay, .inl (g 0, 12, .inl (fun _ => 0))) :: (m_isKept, .inl (g 3, 2, .inl (fun _ => 0))) :: (m_tape, .inl (g 2, 440, .inl (fun _ => 0))) :: []) H → va_D A ((x, .inr (11, [.ref tp, .ref n, .ref dr, .ref x_images, .ref x_kept, .ref rd, .ref st, .ref tl, .ref rg, .ref sv, .ref oc, .ref x_tried, .ref lf, .int 0, .ref x_stoppedWays, .ref x_stoppedWorth, .int 0, .ref x_withinWorth])) :: (tp, .inr (8, [.ref tp_bytes, .int 0])) :: (tp_bytes, .inl (g 0, 440, .inl (fun _ => 0))) :: (n, .inr (2, [.int 0, .ref n_kind, .ref n_pay, .ref n_name, .ref n_ways, .ref n_held, .ref n_targets, .ref n_weights])) :: (n_kind, .inl (g 0, 12, .inl (fun _ => 0))) :: (n_pay, .inl (g 0, 12, .inl (fun _ => 0))) :: (n_name, .inl (g 0, 12, .inl (fun _ => 0))) :: (n_ways, .inl (g 0, 12, .inl (fun _ => 0))) :: (n_held, .inl (g 0, 12, .inl (fun _ => 0))) :: (n_targets, .inl (g 0, 36, .inl (fun _ => 0))) :: (n_weights, .inl (g 0, 36, .inl (fun _ => 0))) :: (dr, .inr (2, [.int 0, .ref dr_kind, .ref dr_pay, .ref dr_name, .ref dr_ways, .ref dr_held, .ref dr_targets, .ref dr_weights])) :: (dr_kind, .inl (g 0, 12, .inl (fun _ => 0))) :: (dr_pay, .inl (g 0, 12, .inl (fun _ => 0))) :: (dr_name, .inl (g 0, 12, .inl (fun _ => 0))) :: (dr_ways, .inl (g 0, 12, .inl (fun _ => 0))) :: (dr_held, .inl (g 0, 12, .inl (fun _ => 0))) :: (dr_targets, .inl (g 0, 36, .inl (fun _ => 0))) :: (dr_weights, .inl (g 0, 36, .inl (fun _ => 0))) :: (x_images, .inl (g 4, 2, .inr (.inr (.inr (.inr (va_up (va_up (fun _ => none) 0 (some i0)) 1 (some i1))))))) :: (i0, .inr (2, [.int 0, .ref i0_kind, .ref i0_pay, .ref i0_name, .ref i0_ways, .ref i0_held, .ref i0_targets, .ref i0_weights])) :: (i0_kind, .inl (g 0, 12, .inl (fun _ => 0))) :: (i0_pay, .inl (g 0, 12, .inl (fun _ => 0))) :: (i0_name, .inl (g 0, 12, .inl (fun _ => 0))) :: (i0_ways, .inl (g 0, 12, .inl (fun _ => 0))) :: (i0_held, .inl (g 0, 12, .inl (fun _ => 0))) :: (i0_targets, .inl (g 0, 36, .inl (fun _ => 0))) :: (i0_weights, .inl (g 0, 36, .inl (fun _ => 0))) :: (i1, .inr (2, [.int 0, .ref i1_kind, .ref i1_pay, .ref i1_name, .ref i1_ways, .ref i1_held, .ref i1_targets, .ref i1_weights])) :: (i1_kind, .inl (g 0, 12, .inl (fun _ => 0))) :: (i1_pay, .inl (g 0, 12, .inl (fun _ => 0))) :: (i1_name, .inl (g 0, 12, .inl (fun _ => 0))) :: (i1_ways, .inl (g 0, 12, .inl (fun _ => 0))) :: (i1_held, .inl (g 0, 12, .inl (fun _ => 0))) :: (i1_targets, .inl (g 0, 36, .inl (fun _ => 0))) :: (i1_weights, .inl (g 0, 36, .inl (fun _ => 0))) :: (x_kept, .inl (g 3, 2, .inl (fun _ => 0))) :: (rd, .inr (4, [.ref tp, .ref dr, .ref rd_kindWords, .int ww, .int 0, .int 0, .int 0, .int 0, .int 0, .int 0])) :: (st, .inr (7, [.ref st_what, .ref st_node, .ref st_index, .ref st_before, .int 0])) :: (tl, .inr (9, [.ref tl_bytes, .int 0])) :: (rg, .inr (5, [.ref n])) :: (sv, .inr (6, [.ref n, .ref co, .ref sv_keep, .ref sv_scaled])) :: (co, .inr (0, [.ref n, .ref eq, .ref co_place])) :: (eq, .inr (1, [.ref eq_rows, .ref eq_right, .long 0])) :: (eq_right, .inl (g 1, 8, .inr (.inl (fun _ => 0)))) :: (eq_rows, .inl (g 5, 8, .inr (.inr (.inr (.inr (fun i => if i < 8 then some (rr i) else none)))))) :: ((rr 0), .inl (g 1, 8, .inr (.inl (fun _ => 0)))) :: ((rr 1), .inl (g 1, 8, .inr (.inl (fun _ => 0)))) :: ((rr 2), .inl (g 1, 8, .inr (.inl (fun _ => 0)))) :: ((rr 3), .inl (g 1, 8, .inr (.inl (fun _ => 0)))) :: ((rr 4), .inl (g 1, 8, .inr (.inl (fun _ => 0)))) :: ((rr 5), .inl (g 1, 8, .inr (.inl (fun _ => 0)))) :: ((rr 6), .inl (g 1, 8, .inr (.inl (fun _ => 0)))) :: ((rr 7), .inl (g 1, 8, .inr (.inl (fun _ => 0)))) :: (oc, .inr (3, [.ref n, .ref sv, .ref oc_plan, .ref wo, .ref le, .ref oc_reach, .ref oc_ringBits, .int 0, .int 0, .int 0])) :: (wo, .inr (10, [.ref wo_part, .long 1])) :: (le, .inr (10, [.ref le_part, .long 1])) :: (lf, .inr (10, [.ref lf_part, .long 1])) :: (mm, .inr (12, (.int 0 :: .ref m_s :: .ref m_spare :: .ref m_kept :: .ref m_undone :: .ref m_triedWay :: .ref m_isKept :: .int 0 :: .ref m_tape :: .int 0 :: .int 0 :: .int 0 :: .int 0 :: .int 0 :: .int 0 :: .int 0 :: .int 0 :: .int 0 :: .ref m_letters :: .int 0 :: .ref m_choice :: .ref m_row :: .ref m_up :: .ref m_low :: .ref m_m :: .ref m_bestUp :: .ref m_bestLow :: .ref m_replyUp :: .ref m_replyLow :: .ref m_worthUp :: .ref m_worthLow :: .ref m_bestWay :: .int 0 :: .ref m_told :: .int 0 :: []))) :: (m_s, .inl (g 0, 193, .inl (fun _ => 0))) :: (m_spare, .inl (g 0, 193, .inl (fun _ => 0))) :: (m_kept, .inl (g 0, 386, .inl (fun _ => 0))) :: (m_triedWay, .inl (g 0, 12, .inl (fun _ => 0))) :: (m_isKept, .inl (g 3, 2, .inl (fun _ => 0))) :: (m_tape, .inl (g 2, 440, .inl (fun _ => 0))) :: []) → va_S A s.heap H locs → lv_has ls 8 [(4, .int 0), (3, .ref oa), (2, .ref mm), (1, .ref x), (0, .ref b)] → W p l e room_1 s m #[Value.ref b] below meth c H locs 114 6056 (lw_Z below #[Value.ref b] s) (F0 m 23 ls []) := by
  intro H locs ls hP hD hS hl
  rcases (show L = 0 ∨ L = 1 ∨ L = 2 ∨ L = 3 ∨ L = 4 ∨ L = 5 ∨ L = 6 by omega) with rfl | rfl | rfl | rfl | rfl | rfl | rfl
  · obtain ⟨hx, hb, hr, hml, hown, hts0, hX, hbl, hlocks, hgv⟩ := id C0
    have hts : ∀ w ∈ wsL_law, w.before _ s = true := fun w h => hts0 w (wsL_law_in w h)
    refine lv_iload hx hb dL_law_23 (lv_at hl 0 rfl) ?_
    refine lv_aload_n hx hb dL_law_25 rfl (lv_at hl 4 rfl) ?_
    refine va_slen hx hb hX hbl hbA hS dL_law_26 ?_
    refine tz_i (y := 0) (by decide) ?_
    refine lv_bipush (v := 6) hx hb dL_law_27 (by decide) ?_
    refine lv_isub hx hb dL_law_29 ?_
    refine tz_i (y := (-6)) (by decide +kernel) ?_
    refine lv_icmp_gt (tgt := 1481) hx hb dL_law_30 (by decide) (fun _ => ?_) (fun h9 => (h9 (by decide)).elim)
    refine lv_iconst (v := 1) hx hb dL_law_1481 (by decide) ?_
    refine va_forget (fun q hq => hAl _ (hS.2.2 q hq)) ?_
    refine W.widen (k := 600002) (n := 7302232) (by decide) (by decide) ?_
    exact lw_ret hx hb hr hlocks dL_law_1482
  · obtain ⟨hx, hb, hr, hml, hown, hts0, hX, hbl, hlocks, hgv⟩ := id C0
    have hts : ∀ w ∈ wsL_law, w.before _ s = true := fun w h => hts0 w (wsL_law_in w h)
    refine lv_iload hx hb dL_law_23 (lv_at hl 0 rfl) ?_
    refine lv_aload_n hx hb dL_law_25 rfl (lv_at hl 4 rfl) ?_
    refine va_slen hx hb hX hbl hbA hS dL_law_26 ?_
    refine tz_i (y := 1) (by decide) ?_
    refine lv_bipush (v := 6) hx hb dL_law_27 (by decide) ?_
    refine lv_isub hx hb dL_law_29 ?_
    refine tz_i (y := (-5)) (by decide +kernel) ?_
    refine lv_icmp_gt (tgt := 1481) hx hb dL_law_30 (by decide) (fun _ => ?_) (fun h9 => (h9 (by decide)).elim)
    refine lv_iconst (v := 1) hx hb dL_law_1481 (by decide) ?_
    refine va_forget (fun q hq => hAl _ (hS.2.2 q hq)) ?_
    refine W.widen (k := 600002) (n := 7302232) (by decide) (by decide) ?_
    exact lw_ret hx hb hr hlocks dL_law_1482
  · obtain ⟨hx, hb, hr, hml, hown, hts0, hX, hbl, hlocks, hgv⟩ := id C0
    have hts : ∀ w ∈ wsL_law, w.before _ s = true := fun w h => hts0 w (wsL_law_in w h)
    refine lv_iload hx hb dL_law_23 (lv_at hl 0 rfl) ?_
    refine lv_aload_n hx hb dL_law_25 rfl (lv_at hl 4 rfl) ?_
    refine va_slen hx hb hX hbl hbA hS dL_law_26 ?_
    refine tz_i (y := 2) (by decide) ?_
    refine lv_bipush (v := 6) hx hb dL_law_27 (by decide) ?_
    refine lv_isub hx hb dL_law_29 ?_
    refine tz_i (y := (-4)) (by decide +kernel) ?_
    refine lv_icmp_gt (tgt := 1481) hx hb dL_law_30 (by decide) (fun _ => ?_) (fun h9 => (h9 (by decide)).elim)
    refine lv_iconst (v := 1) hx hb dL_law_1481 (by decide) ?_
    refine va_forget (fun q hq => hAl _ (hS.2.2 q hq)) ?_
    refine W.widen (k := 600002) (n := 7302232) (by decide) (by decide) ?_
    exact lw_ret hx hb hr hlocks dL_law_1482
  · obtain ⟨hx, hb, hr, hml, hown, hts0, hX, hbl, hlocks, hgv⟩ := id C0
    have hts : ∀ w ∈ wsL_law, w.before _ s = true := fun w h => hts0 w (wsL_law_in w h)
    refine lv_iload hx hb dL_law_23 (lv_at hl 0 rfl) ?_
    refine lv_aload_n hx hb dL_law_25 rfl (lv_at hl 4 rfl) ?_
    refine va_slen hx hb hX hbl hbA hS dL_law_26 ?_
    refine tz_i (y := 3) (by decide) ?_
    refine lv_bipush (v := 6) hx hb dL_law_27 (by decide) ?_
    refine lv_isub hx hb dL_law_29 ?_
    refine tz_i (y := (-3)) (by decide +kernel) ?_
    refine lv_icmp_gt (tgt := 1481) hx hb dL_law_30 (by decide) (fun _ => ?_) (fun h9 => (h9 (by decide)).elim)
    refine lv_iconst (v := 1) hx hb dL_law_1481 (by decide) ?_
    refine va_forget (fun q hq => hAl _ (hS.2.2 q hq)) ?_
    refine W.widen (k := 600002) (n := 7302232) (by decide) (by decide) ?_
    exact lw_ret hx hb hr hlocks dL_law_1482
  · obtain ⟨hx, hb, hr, hml, hown, hts0, hX, hbl, hlocks, hgv⟩ := id C0
    have hts : ∀ w ∈ wsL_law, w.before _ s = true := fun w h => hts0 w (wsL_law_in w h)
    refine lv_iload hx hb dL_law_23 (lv_at hl 0 rfl) ?_
    refine lv_aload_n hx hb dL_law_25 rfl (lv_at hl 4 rfl) ?_
    refine va_slen hx hb hX hbl hbA hS dL_law_26 ?_
    refine tz_i (y := 4) (by decide) ?_
    refine lv_bipush (v := 6) hx hb dL_law_27 (by decide) ?_
    refine lv_isub hx hb dL_law_29 ?_
    refine tz_i (y := (-2)) (by decide +kernel) ?_
    refine lv_icmp_gt (tgt := 1481) hx hb dL_law_30 (by decide) (fun _ => ?_) (fun h9 => (h9 (by decide)).elim)
    refine lv_iconst (v := 1) hx hb dL_law_1481 (by decide) ?_
    refine va_forget (fun q hq => hAl _ (hS.2.2 q hq)) ?_
    refine W.widen (k := 600002) (n := 7302232) (by decide) (by decide) ?_
    exact lw_ret hx hb hr hlocks dL_law_1482
  · obtain ⟨hx, hb, hr, hml, hown, hts0, hX, hbl, hlocks, hgv⟩ := id C0
    have hts : ∀ w ∈ wsL_law, w.before _ s = true := fun w h => hts0 w (wsL_law_in w h)
    refine lv_iload hx hb dL_law_23 (lv_at hl 0 rfl) ?_
    refine lv_aload_n hx hb dL_law_25 rfl (lv_at hl 4 rfl) ?_
    refine va_slen hx hb hX hbl hbA hS dL_law_26 ?_
    refine tz_i (y := 5) (by decide) ?_
    refine lv_bipush (v := 6) hx hb dL_law_27 (by decide) ?_
    refine lv_isub hx hb dL_law_29 ?_
    refine tz_i (y := (-1)) (by decide +kernel) ?_
    refine lv_icmp_gt (tgt := 1481) hx hb dL_law_30 (by decide) (fun _ => ?_) (fun h9 => (h9 (by decide)).elim)
    refine lv_iconst (v := 1) hx hb dL_law_1481 (by decide) ?_
    refine va_forget (fun q hq => hAl _ (hS.2.2 q hq)) ?_
    refine W.widen (k := 600002) (n := 7302232) (by decide) (by decide) ?_
    exact lw_ret hx hb hr hlocks dL_law_1482
  · obtain ⟨hx, hb, hr, hml, hown, hts0, hX, hbl, hlocks, hgv⟩ := id C0
    have hts : ∀ w ∈ wsL_law, w.before _ s = true := fun w h => hts0 w (wsL_law_in w h)
    refine lv_iload hx hb dL_law_23 (lv_at hl 0 rfl) ?_
    refine lv_aload_n hx hb dL_law_25 rfl (lv_at hl 4 rfl) ?_
    refine va_slen hx hb hX hbl hbA hS dL_law_26 ?_
    refine tz_i (y := 6) (by decide) ?_
    refine lv_bipush (v := 6) hx hb dL_law_27 (by decide) ?_
    refine lv_isub hx hb dL_law_29 ?_
    refine tz_i (y := 0) (by decide +kernel) ?_
    refine lv_icmp_gt (tgt := 1481) hx hb dL_law_30 (by decide) (fun h9 => absurd h9 (by decide)) (fun _ => ?_)
    refine lv_aload_n hx hb dL_law_33 rfl (lv_at hl 4 rfl) ?_
    refine lv_iload hx hb dL_law_34 (lv_at hl 0 rfl) ?_
    refine va_sld hx hb hX hbl hbA hS (tz_in (by decide +kernel)) dL_law_36 ?_
    refine tz_i (y := xs 0) (congrArg xs (by decide +kernel)) ?_
    refine lv_bipush (v := 63) hx hb dL_law_37 (by decide) ?_
    refine lv_iand hx hb dL_law_39 ?_
    generalize (xs 0 &&& 63) = z
    by_cases hin : vp_in z 35
    · obtain ⟨j, hj, rfl⟩ := vp_in_of hin (by decide)
      rcases (show j = 0 ∨ j = 1 ∨ j = 2 ∨ j = 3 ∨ j = 4 ∨ j = 5 ∨ j = 6 ∨ j = 7 ∨ j = 8 ∨ j = 9 ∨ j = 10 ∨ j = 11 ∨ j = 12 ∨ j = 13 ∨ j = 14 ∨ j = 15 ∨ j = 16 ∨ j = 17 ∨ j = 18 ∨ j = 19 ∨ j = 20 ∨ j = 21 ∨ j = 22 ∨ j = 23 ∨ j = 24 ∨ j = 25 ∨ j = 26 ∨ j = 27 ∨ j = 28 ∨ j = 29 ∨ j = 30 ∨ j = 31 ∨ j = 32 ∨ j = 33 ∨ j = 34 by omega) with rfl | rfl | rfl | rfl | rfl | rfl | rfl | rfl | rfl | rfl | rfl | rfl | rfl | rfl | rfl | rfl | rfl | rfl | rfl | rfl | rfl | rfl | rfl | rfl | rfl | rfl | rfl | rfl | rfl | rfl | rfl | rfl | rfl | rfl | rfl
      · refine tz_i (y := 0) (by decide) ?_
        refine lv_tableIn (off := 156) (tgt := 196) hx hb dL_law_40 (by decide) (by decide) (by decide) (by decide) ?_
        exact law_case_0 x mm oa tp n dr x_images x_kept rd st tl rg sv oc x_tried lf x_stoppedWays x_stoppedWorth x_withinWorth tp_bytes m_s m_spare m_kept m_undone m_triedWay m_isKept m_tape m_letters m_choice m_row m_up m_low m_m m_bestUp m_bestLow m_replyUp m_replyLow m_worthUp m_worthLow m_bestWay m_told hst C0 hA hAl hbA hK hZ H locs ls (hP.sub [0, 1, 2, 58, 64] rfl) (hD.sub [0, 1, 2, 58, 64] (by decide) rfl) hS hl
      · refine tz_i (y := 1) (by decide) ?_
        refine lv_tableIn (off := 229) (tgt := 269) hx hb dL_law_40 (by decide) (by decide) (by decide) (by decide) ?_
        exact law_case_1 x mm oa tp n dr x_images x_kept rd st tl rg sv oc x_tried lf x_stoppedWays x_stoppedWorth x_withinWorth tp_bytes m_s m_spare m_kept m_undone m_triedWay m_isKept m_tape m_letters m_choice m_row m_up m_low m_m m_bestUp m_bestLow m_replyUp m_replyLow m_worthUp m_worthLow m_bestWay m_told hst C0 hA hAl hbA hK hZ H locs ls (hP.sub [0, 1, 58] rfl) (hD.sub [0, 1, 58] (by decide) rfl) hS hl
      · refine tz_i (y := 2) (by decide) ?_
        refine lv_tableIn (off := 254) (tgt := 294) hx hb dL_law_40 (by decide) (by decide) (by decide) (by decide) ?_
        exact law_case_2 x mm oa tp n dr x_images x_kept rd st tl rg sv oc x_tried lf x_stoppedWays x_stoppedWorth x_withinWorth tp_bytes n_kind n_pay n_name n_ways n_held n_targets n_weights dr_kind dr_pay dr_name dr_ways dr_held dr_targets dr_weights rd_kindWords ww st_what st_node st_index st_before co sv_keep sv_scaled oc_plan wo le oc_reach oc_ringBits m_s m_spare m_kept m_undone m_triedWay m_isKept m_tape m_letters m_choice m_row m_up m_low m_m m_bestUp m_bestLow m_replyUp m_replyLow m_worthUp m_worthLow m_bestWay m_told hst C0 hA hAl hbA hK hZ H locs ls (hP.sub [0, 1, 3, 4, 5, 6, 7, 8, 9, 10, 11, 12, 13, 14, 15, 16, 17, 18, 37, 38, 41, 54, 58, 59, 60, 62] rfl) (hD.sub [0, 1, 3, 4, 5, 6, 7, 8, 9, 10, 11, 12, 13, 14, 15, 16, 17, 18, 37, 38, 41, 54, 58, 59, 60, 62] (by decide) rfl) hS hl
      · refine tz_i (y := 3) (by decide) ?_
        refine lv_tableIn (off := 267) (tgt := 307) hx hb dL_law_40 (by decide) (by decide) (by decide) (by decide) ?_
        exact law_case_3 x mm oa tp n dr x_images x_kept rd st tl rg sv oc x_tried lf x_stoppedWays x_stoppedWorth x_withinWorth rd_kindWords ww m_s m_spare m_kept m_undone m_triedWay m_isKept m_tape m_letters m_choice m_row m_up m_low m_m m_bestUp m_bestLow m_replyUp m_replyLow m_worthUp m_worthLow m_bestWay m_told hst C0 hA hAl hbA hK hZ H locs ls (hP.sub [0, 37, 58] rfl) (hD.sub [0, 37, 58] (by decide) rfl) hS hl
      · refine tz_i (y := 4) (by decide) ?_
        refine lv_tableIn (off := 280) (tgt := 320) hx hb dL_law_40 (by decide) (by decide) (by decide) (by decide) ?_
        exact law_case_4 x mm oa tp n dr x_images x_kept rd st tl rg sv oc x_tried lf x_stoppedWays x_stoppedWorth x_withinWorth n_kind n_pay n_name n_ways n_held n_targets n_weights m_s m_spare m_kept m_undone m_triedWay m_isKept m_tape m_letters m_choice m_row m_up m_low m_m m_bestUp m_bestLow m_replyUp m_replyLow m_worthUp m_worthLow m_bestWay m_told hst C0 hA hAl hbA hK hZ H locs ls (hP.sub [0, 3, 58, 59] rfl) (hD.sub [0, 3, 58, 59] (by decide) rfl) hS hl
      · refine tz_i (y := 5) (by decide) ?_
        refine lv_tableIn (off := 348) (tgt := 388) hx hb dL_law_40 (by decide) (by decide) (by decide) (by decide) ?_
        exact law_case_5 x mm oa tp n dr x_images x_kept rd st tl rg sv oc x_tried lf x_stoppedWays x_stoppedWorth x_withinWorth n_kind n_pay n_name n_ways n_held n_targets n_weights m_s m_spare m_kept m_undone m_triedWay m_isKept m_tape m_letters m_choice m_row m_up m_low m_m m_bestUp m_bestLow m_replyUp m_replyLow m_worthUp m_worthLow m_bestWay m_told hst C0 hA hAl hbA hK hZ H locs ls (hP.sub [0, 3, 58, 59] rfl) (hD.sub [0, 3, 58, 59] (by decide) rfl) hS hl
      · refine tz_i (y := 6) (by decide) ?_
        refine lv_tableIn (off := 428) (tgt := 468) hx hb dL_law_40 (by decide) (by decide) (by decide) (by decide) ?_
        exact law_case_6 x mm oa tp n dr x_images x_kept rd st tl rg sv oc x_tried lf x_stoppedWays x_stoppedWorth x_withinWorth n_kind n_pay n_name n_ways n_held n_targets n_weights m_s m_spare m_kept m_undone m_triedWay m_isKept m_tape m_letters m_choice m_row m_up m_low m_m m_bestUp m_bestLow m_replyUp m_replyLow m_worthUp m_worthLow m_bestWay m_told hst C0 hA hAl hbA hK hZ H locs ls (hP.sub [0, 3, 58, 59] rfl) (hD.sub [0, 3, 58, 59] (by decide) rfl) hS hl
      · refine tz_i (y := 7) (by decide) ?_
        refine lv_tableIn (off := 495) (tgt := 535) hx hb dL_law_40 (by decide) (by decide) (by decide) (by decide) ?_
        exact law_case_7 x mm oa tp n dr x_images x_kept rd st tl rg sv oc x_tried lf x_stoppedWays x_stoppedWorth x_withinWorth n_kind n_pay n_name n_ways n_held n_targets n_weights m_s m_spare m_kept m_undone m_triedWay m_isKept m_tape m_letters m_choice m_row m_up m_low m_m m_bestUp m_bestLow m_replyUp m_replyLow m_worthUp m_worthLow m_bestWay m_told hst C0 hA hAl hbA hK hZ H locs ls (hP.sub [0, 3, 58, 59] rfl) (hD.sub [0, 3, 58, 59] (by decide) rfl) hS hl
      · refine tz_i (y := 8) (by decide) ?_
        refine lv_tableIn (off := 520) (tgt := 560) hx hb dL_law_40 (by decide) (by decide) (by decide) (by decide) ?_
        exact law_case_8 x mm oa tp n dr x_images x_kept rd st tl rg sv oc x_tried lf x_stoppedWays x_stoppedWorth x_withinWorth n_kind n_pay n_name n_ways n_held n_targets n_weights m_s m_spare m_kept m_undone m_triedWay m_isKept m_tape m_letters m_choice m_row m_up m_low m_m m_bestUp m_bestLow m_replyUp m_replyLow m_worthUp m_worthLow m_bestWay m_told hst C0 hA hAl hbA hK hZ H locs ls (hP.sub [0, 3, 58, 59] rfl) (hD.sub [0, 3, 58, 59] (by decide) rfl) hS hl
      · refine tz_i (y := 9) (by decide) ?_
        refine lv_tableIn (off := 545) (tgt := 585) hx hb dL_law_40 (by decide) (by decide) (by decide) (by decide) ?_
        exact law_case_9 x mm oa tp n dr x_images x_kept rd st tl rg sv oc x_tried lf x_stoppedWays x_stoppedWorth x_withinWorth n_kind n_pay n_name n_ways n_held n_targets n_weights m_s m_spare m_kept m_undone m_triedWay m_isKept m_tape m_letters m_choice m_row m_up m_low m_m m_bestUp m_bestLow m_replyUp m_replyLow m_worthUp m_worthLow m_bestWay m_told hst C0 hA hAl hbA hK hZ H locs ls (hP.sub [0, 3, 58, 59] rfl) (hD.sub [0, 3, 58, 59] (by decide) rfl) hS hl
      · refine tz_i (y := 10) (by decide) ?_
        refine lv_tableIn (off := 570) (tgt := 610) hx hb dL_law_40 (by decide) (by decide) (by decide) (by decide) ?_
        exact law_case_10 x mm oa tp n dr x_images x_kept rd st tl rg sv oc x_tried lf x_stoppedWays x_stoppedWorth x_withinWorth n_kind n_pay n_name n_ways n_held n_targets n_weights m_s m_spare m_kept m_undone m_triedWay m_isKept m_tape m_letters m_choice m_row m_up m_low m_m m_bestUp m_bestLow m_replyUp m_replyLow m_worthUp m_worthLow m_bestWay m_told hst C0 hA hAl hbA hK hZ H locs ls (hP.sub [0, 3, 58, 59] rfl) (hD.sub [0, 3, 58, 59] (by decide) rfl) hS hl
      · refine tz_i (y := 11) (by decide) ?_
        refine lv_tableIn (off := 637) (tgt := 677) hx hb dL_law_40 (by decide) (by decide) (by decide) (by decide) ?_
        exact law_case_11 x mm oa tp n dr x_images x_kept rd st tl rg sv oc x_tried lf x_stoppedWays x_stoppedWorth x_withinWorth n_kind n_pay n_name n_ways n_held n_targets n_weights co sv_keep sv_scaled eq co_place eq_rows eq_right rr lf_part m_s m_spare m_kept m_undone m_triedWay m_isKept m_tape m_letters m_choice m_row m_up m_low m_m m_bestUp m_bestLow m_replyUp m_replyLow m_worthUp m_worthLow m_bestWay m_told hst C0 hA hAl hbA hK hZ H locs ls (hP.sub [0, 3, 41, 42, 43, 44, 45, 46, 47, 48, 49, 50, 51, 52, 53, 57, 58, 59] rfl) (hD.sub [0, 3, 41, 42, 43, 44, 45, 46, 47, 48, 49, 50, 51, 52, 53, 57, 58, 59] (by decide) rfl) hS hl
      · refine tz_i (y := 12) (by decide) ?_
        refine lv_tableIn (off := 650) (tgt := 690) hx hb dL_law_40 (by decide) (by decide) (by decide) (by decide) ?_
        exact law_case_12 x mm oa tp n dr x_images x_kept rd st tl rg sv oc x_tried lf x_stoppedWays x_stoppedWorth x_withinWorth n_kind n_pay n_name n_ways n_held n_targets n_weights co sv_keep sv_scaled eq co_place eq_rows eq_right rr lf_part m_s m_spare m_kept m_undone m_triedWay m_isKept m_tape m_letters m_choice m_row m_up m_low m_m m_bestUp m_bestLow m_replyUp m_replyLow m_worthUp m_worthLow m_bestWay m_told hst C0 hA hAl hbA hK hZ H locs ls (hP.sub [0, 3, 41, 42, 43, 44, 45, 46, 47, 48, 49, 50, 51, 52, 53, 57, 58, 59] rfl) (hD.sub [0, 3, 41, 42, 43, 44, 45, 46, 47, 48, 49, 50, 51, 52, 53, 57, 58, 59] (by decide) rfl) hS hl
      · refine tz_i (y := 13) (by decide) ?_
        refine lv_tableIn (off := 663) (tgt := 703) hx hb dL_law_40 (by decide) (by decide) (by decide) (by decide) ?_
        exact law_case_13 x mm oa tp n dr x_images x_kept rd st tl rg sv oc x_tried lf x_stoppedWays x_stoppedWorth x_withinWorth n_kind n_pay n_name n_ways n_held n_targets n_weights m_s m_spare m_kept m_undone m_triedWay m_isKept m_tape m_letters m_choice m_row m_up m_low m_m m_bestUp m_bestLow m_replyUp m_replyLow m_worthUp m_worthLow m_bestWay m_told hst C0 hA hAl hbA hK hZ H locs ls (hP.sub [0, 3, 58, 59] rfl) (hD.sub [0, 3, 58, 59] (by decide) rfl) hS hl
      · refine tz_i (y := 14) (by decide) ?_
        refine lv_tableIn (off := 700) (tgt := 740) hx hb dL_law_40 (by decide) (by decide) (by decide) (by decide) ?_
        exact law_case_14 x mm oa tp n dr x_images x_kept rd st tl rg sv oc x_tried lf x_stoppedWays x_stoppedWorth x_withinWorth n_kind n_pay n_name n_ways n_held n_targets n_weights m_s m_spare m_kept m_undone m_triedWay m_isKept m_tape m_letters m_choice m_row m_up m_low m_m m_bestUp m_bestLow m_replyUp m_replyLow m_worthUp m_worthLow m_bestWay m_told hst C0 hA hAl hbA hK hZ H locs ls (hP.sub [0, 3, 58, 59] rfl) (hD.sub [0, 3, 58, 59] (by decide) rfl) hS hl
      · refine tz_i (y := 15) (by decide) ?_
        refine lv_tableIn (off := 725) (tgt := 765) hx hb dL_law_40 (by decide) (by decide) (by decide) (by decide) ?_
        exact law_case_15 x mm oa tp n dr x_images x_kept rd st tl rg sv oc x_tried lf x_stoppedWays x_stoppedWorth x_withinWorth n_kind n_pay n_name n_ways n_held n_targets n_weights m_s m_spare m_kept m_undone m_triedWay m_isKept m_tape m_letters m_choice m_row m_up m_low m_m m_bestUp m_bestLow m_replyUp m_replyLow m_worthUp m_worthLow m_bestWay m_told hst C0 hA hAl hbA hK hZ H locs ls (hP.sub [0, 3, 58, 59] rfl) (hD.sub [0, 3, 58, 59] (by decide) rfl) hS hl
      · refine tz_i (y := 16) (by decide) ?_
        refine lv_tableIn (off := 774) (tgt := 814) hx hb dL_law_40 (by decide) (by decide) (by decide) (by decide) ?_
        exact law_case_16 x mm oa tp n dr x_images x_kept rd st tl rg sv oc x_tried lf x_stoppedWays x_stoppedWorth x_withinWorth n_kind n_pay n_name n_ways n_held n_targets n_weights m_s m_spare m_kept m_undone m_triedWay m_isKept m_tape m_letters m_choice m_row m_up m_low m_m m_bestUp m_bestLow m_replyUp m_replyLow m_worthUp m_worthLow m_bestWay m_told hst C0 hA hAl hbA hK hZ H locs ls (hP.sub [0, 3, 58, 59] rfl) (hD.sub [0, 3, 58, 59] (by decide) rfl) hS hl
      · refine tz_i (y := 17) (by decide) ?_
        refine lv_tableIn (off := 811) (tgt := 851) hx hb dL_law_40 (by decide) (by decide) (by decide) (by decide) ?_
        exact law_case_17 x mm oa tp n dr x_images x_kept rd st tl rg sv oc x_tried lf x_stoppedWays x_stoppedWorth x_withinWorth n_kind n_pay n_name n_ways n_held n_targets n_weights m_s m_spare m_kept m_undone m_triedWay m_isKept m_tape m_letters m_choice m_row m_up m_low m_m m_bestUp m_bestLow m_replyUp m_replyLow m_worthUp m_worthLow m_bestWay m_told hst C0 hA hAl hbA hK hZ H locs ls (hP.sub [0, 3, 58, 59] rfl) (hD.sub [0, 3, 58, 59] (by decide) rfl) hS hl
      · refine tz_i (y := 18) (by decide) ?_
        refine lv_tableIn (off := 890) (tgt := 930) hx hb dL_law_40 (by decide) (by decide) (by decide) (by decide) ?_
        exact law_case_18 x mm oa tp n dr x_images x_kept rd st tl rg sv oc x_tried lf x_stoppedWays x_stoppedWorth x_withinWorth n_kind n_pay n_name n_ways n_held n_targets n_weights m_s m_spare m_kept m_undone m_triedWay m_isKept m_tape m_letters m_choice m_row m_up m_low m_m m_bestUp m_bestLow m_replyUp m_replyLow m_worthUp m_worthLow m_bestWay m_told hst C0 hA hAl hbA hK hZ H locs ls (hP.sub [0, 3, 58, 59] rfl) (hD.sub [0, 3, 58, 59] (by decide) rfl) hS hl
      · refine tz_i (y := 19) (by decide) ?_
        refine lv_tableIn (off := 969) (tgt := 1009) hx hb dL_law_40 (by decide) (by decide) (by decide) (by decide) ?_
        exact law_case_19 x mm oa tp n dr x_images x_kept rd st tl rg sv oc x_tried lf x_stoppedWays x_stoppedWorth x_withinWorth n_kind n_pay n_name n_ways n_held n_targets n_weights m_s m_spare m_kept m_undone m_triedWay m_isKept m_tape m_letters m_choice m_row m_up m_low m_m m_bestUp m_bestLow m_replyUp m_replyLow m_worthUp m_worthLow m_bestWay m_told hst C0 hA hAl hbA hK hZ H locs ls (hP.sub [0, 3, 40, 58, 59] rfl) (hD.sub [0, 3, 40, 58, 59] (by decide) rfl) hS hl
      · refine tz_i (y := 20) (by decide) ?_
        refine lv_tableIn (off := 1006) (tgt := 1046) hx hb dL_law_40 (by decide) (by decide) (by decide) (by decide) ?_
        exact law_case_20 x mm oa tp n dr x_images x_kept rd st tl rg sv oc x_tried lf x_stoppedWays x_stoppedWorth x_withinWorth n_kind n_pay n_name n_ways n_held n_targets n_weights co sv_keep sv_scaled eq co_place eq_rows eq_right rr oc_plan wo le oc_reach oc_ringBits wo_part le_part m_s m_spare m_kept m_undone m_triedWay m_isKept m_tape m_letters m_choice m_row m_up m_low m_m m_bestUp m_bestLow m_replyUp m_replyLow m_worthUp m_worthLow m_bestWay m_told hst C0 hA hAl hbA hK hZ H locs ls (hP.sub [0, 3, 41, 42, 43, 44, 45, 46, 47, 48, 49, 50, 51, 52, 53, 54, 55, 56, 58, 59] rfl) (hD.sub [0, 3, 41, 42, 43, 44, 45, 46, 47, 48, 49, 50, 51, 52, 53, 54, 55, 56, 58, 59] (by decide) rfl) hS hl
      · refine tz_i (y := 21) (by decide) ?_
        refine lv_tableIn (off := 1019) (tgt := 1059) hx hb dL_law_40 (by decide) (by decide) (by decide) (by decide) ?_
        exact law_case_21 x mm oa tp n dr x_images x_kept rd st tl rg sv oc x_tried lf x_stoppedWays x_stoppedWorth x_withinWorth n_kind n_pay n_name n_ways n_held n_targets n_weights co sv_keep sv_scaled eq co_place eq_rows eq_right rr oc_plan wo le oc_reach oc_ringBits wo_part le_part m_s m_spare m_kept m_undone m_triedWay m_isKept m_tape m_letters m_choice m_row m_up m_low m_m m_bestUp m_bestLow m_replyUp m_replyLow m_worthUp m_worthLow m_bestWay m_told hst C0 hA hAl hbA hK hZ H locs ls (hP.sub [0, 3, 41, 42, 43, 44, 45, 46, 47, 48, 49, 50, 51, 52, 53, 54, 55, 56, 58, 59] rfl) (hD.sub [0, 3, 41, 42, 43, 44, 45, 46, 47, 48, 49, 50, 51, 52, 53, 54, 55, 56, 58, 59] (by decide) rfl) hS hl
      · refine tz_i (y := 22) (by decide) ?_
        refine lv_tableIn (off := 1044) (tgt := 1084) hx hb dL_law_40 (by decide) (by decide) (by decide) (by decide) ?_
        exact law_case_22 x mm oa tp n dr x_images x_kept rd st tl rg sv oc x_tried lf x_stoppedWays x_stoppedWorth x_withinWorth n_kind n_pay n_name n_ways n_held n_targets n_weights m_s m_spare m_kept m_undone m_triedWay m_isKept m_tape m_letters m_choice m_row m_up m_low m_m m_bestUp m_bestLow m_replyUp m_replyLow m_worthUp m_worthLow m_bestWay m_told hst C0 hA hAl hbA hK hZ H locs ls (hP.sub [0, 3, 58, 59] rfl) (hD.sub [0, 3, 58, 59] (by decide) rfl) hS hl
      · refine tz_i (y := 23) (by decide) ?_
        refine lv_tableIn (off := 1111) (tgt := 1151) hx hb dL_law_40 (by decide) (by decide) (by decide) (by decide) ?_
        exact law_case_23 x mm oa tp n dr x_images x_kept rd st tl rg sv oc x_tried lf x_stoppedWays x_stoppedWorth x_withinWorth n_kind n_pay n_name n_ways n_held n_targets n_weights co sv_keep sv_scaled eq co_place eq_rows eq_right rr oc_plan wo le oc_reach oc_ringBits wo_part le_part m_s m_spare m_kept m_undone m_triedWay m_isKept m_tape m_letters m_choice m_row m_up m_low m_m m_bestUp m_bestLow m_replyUp m_replyLow m_worthUp m_worthLow m_bestWay m_told hst C0 hA hAl hbA hK hZ H locs ls (hP.sub [0, 3, 40, 41, 42, 43, 44, 45, 46, 47, 48, 49, 50, 51, 52, 53, 54, 55, 56, 58, 59] rfl) (hD.sub [0, 3, 40, 41, 42, 43, 44, 45, 46, 47, 48, 49, 50, 51, 52, 53, 54, 55, 56, 58, 59] (by decide) rfl) hS hl
      · refine tz_i (y := 24) (by decide) ?_
        refine lv_tableIn (off := 1148) (tgt := 1188) hx hb dL_law_40 (by decide) (by decide) (by decide) (by decide) ?_
        exact law_case_24 x mm oa tp n dr x_images x_kept rd st tl rg sv oc x_tried lf x_stoppedWays x_stoppedWorth x_withinWorth n_kind n_pay n_name n_ways n_held n_targets n_weights m_s m_spare m_kept m_undone m_triedWay m_isKept m_tape m_letters m_choice m_row m_up m_low m_m m_bestUp m_bestLow m_replyUp m_replyLow m_worthUp m_worthLow m_bestWay m_told hst C0 hA hAl hbA hK hZ H locs ls (hP.sub [0, 3, 58, 59] rfl) (hD.sub [0, 3, 58, 59] (by decide) rfl) hS hl
      · refine tz_i (y := 25) (by decide) ?_
        refine lv_tableIn (off := 1173) (tgt := 1213) hx hb dL_law_40 (by decide) (by decide) (by decide) (by decide) ?_
        exact law_case_25 x mm oa tp n dr x_images x_kept rd st tl rg sv oc x_tried lf x_stoppedWays x_stoppedWorth x_withinWorth tp_bytes n_kind n_pay n_name n_ways n_held n_targets n_weights m_s m_spare m_kept m_undone m_triedWay m_isKept m_tape m_letters m_choice m_row m_up m_low m_m m_bestUp m_bestLow m_replyUp m_replyLow m_worthUp m_worthLow m_bestWay m_told hst C0 hA hAl hbA hK hZ H locs ls (hP.sub [0, 1, 3, 58, 59] rfl) (hD.sub [0, 1, 3, 58, 59] (by decide) rfl) hS hl
      · refine tz_i (y := 26) (by decide) ?_
        refine lv_tableIn (off := 1186) (tgt := 1226) hx hb dL_law_40 (by decide) (by decide) (by decide) (by decide) ?_
        exact law_case_26 x mm oa tp n dr x_images x_kept rd st tl rg sv oc x_tried lf x_stoppedWays x_stoppedWorth x_withinWorth tp_bytes n_kind n_pay n_name n_ways n_held n_targets n_weights co sv_keep sv_scaled eq co_place eq_rows eq_right rr lf_part m_s m_spare m_kept m_undone m_triedWay m_isKept m_tape m_letters m_choice m_row m_up m_low m_m m_bestUp m_bestLow m_replyUp m_replyLow m_worthUp m_worthLow m_bestWay m_told hst C0 hA hAl hbA hK hZ H locs ls (hP.sub [0, 1, 3, 41, 42, 43, 44, 45, 46, 47, 48, 49, 50, 51, 52, 53, 57, 58, 59] rfl) (hD.sub [0, 1, 3, 41, 42, 43, 44, 45, 46, 47, 48, 49, 50, 51, 52, 53, 57, 58, 59] (by decide) rfl) hS hl
      · refine tz_i (y := 27) (by decide) ?_
        refine lv_tableIn (off := 1199) (tgt := 1239) hx hb dL_law_40 (by decide) (by decide) (by decide) (by decide) ?_
        exact law_case_27 x mm oa tp n dr x_images x_kept rd st tl rg sv oc x_tried lf x_stoppedWays x_stoppedWorth x_withinWorth n_kind n_pay n_name n_ways n_held n_targets n_weights m_s m_spare m_kept m_undone m_triedWay m_isKept m_tape m_letters m_choice m_row m_up m_low m_m m_bestUp m_bestLow m_replyUp m_replyLow m_worthUp m_worthLow m_bestWay m_told hst C0 hA hAl hbA hK hZ H locs ls (hP.sub [0, 3, 58, 59] rfl) (hD.sub [0, 3, 58, 59] (by decide) rfl) hS hl
      · refine tz_i (y := 28) (by decide) ?_
        refine lv_tableIn (off := 1248) (tgt := 1288) hx hb dL_law_40 (by decide) (by decide) (by decide) (by decide) ?_
        exact law_case_28 x mm oa tp n dr x_images x_kept rd st tl rg sv oc x_tried lf x_stoppedWays x_stoppedWorth x_withinWorth n_kind n_pay n_name n_ways n_held n_targets n_weights m_s m_spare m_kept m_undone m_triedWay m_isKept m_tape m_letters m_choice m_row m_up m_low m_m m_bestUp m_bestLow m_replyUp m_replyLow m_worthUp m_worthLow m_bestWay m_told hst C0 hA hAl hbA hK hZ H locs ls (hP.sub [0, 3, 58, 59] rfl) (hD.sub [0, 3, 58, 59] (by decide) rfl) hS hl
      · refine tz_i (y := 29) (by decide) ?_
        refine lv_tableIn (off := 1309) (tgt := 1349) hx hb dL_law_40 (by decide) (by decide) (by decide) (by decide) ?_
        exact law_case_29 x mm oa tp n dr x_images x_kept rd st tl rg sv oc x_tried lf x_stoppedWays x_stoppedWorth x_withinWorth n_kind n_pay n_name n_ways n_held n_targets n_weights tl_bytes m_s m_spare m_kept m_undone m_triedWay m_isKept m_tape m_letters m_choice m_row m_up m_low m_m m_bestUp m_bestLow m_replyUp m_replyLow m_worthUp m_worthLow m_bestWay m_told hst C0 hA hAl hbA hK hZ H locs ls (hP.sub [0, 3, 39, 58, 59] rfl) (hD.sub [0, 3, 39, 58, 59] (by decide) rfl) hS hl
      · refine tz_i (y := 30) (by decide) ?_
        refine lv_tableIn (off := 1322) (tgt := 1362) hx hb dL_law_40 (by decide) (by decide) (by decide) (by decide) ?_
        exact law_case_30 x mm oa tp n dr x_images x_kept rd st tl rg sv oc x_tried lf x_stoppedWays x_stoppedWorth x_withinWorth tl_bytes m_s m_spare m_kept m_undone m_triedWay m_isKept m_tape m_letters m_choice m_row m_up m_low m_m m_bestUp m_bestLow m_replyUp m_replyLow m_worthUp m_worthLow m_bestWay m_told hst C0 hA hAl hbA hK hZ H locs ls (hP.sub [0, 39, 58] rfl) (hD.sub [0, 39, 58] (by decide) rfl) hS hl
      · refine tz_i (y := 31) (by decide) ?_
        refine lv_tableIn (off := 1347) (tgt := 1387) hx hb dL_law_40 (by decide) (by decide) (by decide) (by decide) ?_
        exact law_case_31 x mm oa tp n dr x_images x_kept rd st tl rg sv oc x_tried lf x_stoppedWays x_stoppedWorth x_withinWorth st_what st_node st_index st_before m_s m_spare m_kept m_undone m_triedWay m_isKept m_tape m_letters m_choice m_row m_up m_low m_m m_bestUp m_bestLow m_replyUp m_replyLow m_worthUp m_worthLow m_bestWay m_told hst C0 hA hAl hbA hK hZ H locs ls (hP.sub [0, 38, 58] rfl) (hD.sub [0, 38, 58] (by decide) rfl) hS hl
      · refine tz_i (y := 32) (by decide) ?_
        refine lv_tableIn (off := 1360) (tgt := 1400) hx hb dL_law_40 (by decide) (by decide) (by decide) (by decide) ?_
        exact law_case_32 x mm oa tp n dr x_images x_kept rd st tl rg sv oc x_tried lf x_stoppedWays x_stoppedWorth x_withinWorth n_kind n_pay n_name n_ways n_held n_targets n_weights i0 i1 i0_kind i0_pay i0_name i0_ways i0_held i0_targets i0_weights i1_kind i1_pay i1_name i1_ways i1_held i1_targets i1_weights m_s m_spare m_kept m_undone m_triedWay m_isKept m_tape m_letters m_choice m_row m_up m_low m_m m_bestUp m_bestLow m_replyUp m_replyLow m_worthUp m_worthLow m_bestWay m_told hst C0 hA hAl hbA hK hZ H locs ls (hP.sub [0, 3, 4, 5, 6, 7, 8, 9, 10, 19, 20, 21, 22, 23, 24, 25, 26, 27, 28, 29, 30, 31, 32, 33, 34, 35, 36, 58, 59, 61, 63] rfl) (hD.sub [0, 3, 4, 5, 6, 7, 8, 9, 10, 19, 20, 21, 22, 23, 24, 25, 26, 27, 28, 29, 30, 31, 32, 33, 34, 35, 36, 58, 59, 61, 63] (by decide) rfl) hS hl
      · refine tz_i (y := 33) (by decide) ?_
        refine lv_tableIn (off := 1385) (tgt := 1425) hx hb dL_law_40 (by decide) (by decide) (by decide) (by decide) ?_
        exact law_case_33 x mm oa tp n dr x_images x_kept rd st tl rg sv oc x_tried lf x_stoppedWays x_stoppedWorth x_withinWorth m_s m_spare m_kept m_undone m_triedWay m_isKept m_tape m_letters m_choice m_row m_up m_low m_m m_bestUp m_bestLow m_replyUp m_replyLow m_worthUp m_worthLow m_bestWay m_told hst C0 hA hAl hbA hK hZ H locs ls (hP.sub [0, 36, 58, 63] rfl) (hD.sub [0, 36, 58, 63] (by decide) rfl) hS hl
      · refine tz_i (y := 34) (by decide) ?_
        refine lv_tableIn (off := 1410) (tgt := 1450) hx hb dL_law_40 (by decide) (by decide) (by decide) (by decide) ?_
        exact law_case_34 x mm oa tp n dr x_images x_kept rd st tl rg sv oc x_tried lf x_stoppedWays x_stoppedWorth x_withinWorth tp_bytes n_kind n_pay n_name n_ways n_held n_targets n_weights m_s m_spare m_kept m_undone m_triedWay m_isKept m_tape m_letters m_choice m_row m_up m_low m_m m_bestUp m_bestLow m_replyUp m_replyLow m_worthUp m_worthLow m_bestWay m_told hst C0 hA hAl hbA hK hZ H locs ls (hP.sub [0, 1, 3, 58, 59] rfl) (hD.sub [0, 1, 3, 58, 59] (by decide) rfl) hS hl
    · refine lv_tableOut (tgt := 1475) hx hb dL_law_40 (tz_out hin) (by decide) ?_
      exact law_end C0 hAl hbA H locs ls _ _ (by decide) (by decide) hS (lv_sub hl [0, 4] rfl)
set_option maxHeartbeats 4000000 in
set_option maxRecDepth 100000 in
theorem start_D {args : Array Value} {s : State} (hts : ∀ w ∈ wsL_law, w.before args s = true) : ∃ D : va_G, ∀ (k : Nat) (q : vw_C), vwCl[k]? = some q → u_Kn s q.1 q.2.1 q.2.2 (D.1 k) (D.2 k) := by
  obtain ⟨c0, i0, h0⟩ := u_known (C := RX0) (T := TX0) (N := 3) (n := 3) hts inlX0 (hts (Cond.instantiable RX0 3) qw_496)
  obtain ⟨c1, i1, h1⟩ := u_known (C := RX1) (T := TX1) (N := 3) (n := 3) hts inlX1 (hts (Cond.instantiable RX1 3) qw_488)
  obtain ⟨c2, i2, h2⟩ := u_known (C := RX2) (T := TX2) (N := 8) (n := 8) hts inlX2 (hts (Cond.instantiable RX2 8) qw_519)
  obtain ⟨c3, i3, h3⟩ := u_known (C := RX3) (T := TX3) (N := 10) (n := 10) hts inlX3 (hts (Cond.instantiable RX3 10) qw_548)
  obtain ⟨c4, i4, h4⟩ := u_known (C := RX4) (T := TX4) (N := 10) (n := 10) hts inlX4 (hts (Cond.instantiable RX4 10) qw_524)
  obtain ⟨c5, i5, h5⟩ := u_known (C := RX5) (T := TX5) (N := 1) (n := 1) hts inlX5 (hts (Cond.instantiable RX5 1) qw_538)
  obtain ⟨c6, i6, h6⟩ := u_known (C := RX6) (T := TX6) (N := 4) (n := 4) hts inlX6 (hts (Cond.instantiable RX6 4) qw_543)
  obtain ⟨c7, i7, h7⟩ := u_known (C := RX7) (T := TX7) (N := 5) (n := 5) hts inlX7 (hts (Cond.instantiable RX7 5) qw_529)
  obtain ⟨c8, i8, h8⟩ := u_known (C := RX8) (T := TX8) (N := 2) (n := 2) hts inlX8 (hts (Cond.instantiable RX8 2) qw_515)
  obtain ⟨c9, i9, h9⟩ := u_known (C := RX9) (T := TX9) (N := 2) (n := 2) hts inlX9 (hts (Cond.instantiable RX9 2) qw_534)
  obtain ⟨c10, i10, h10⟩ := u_known (C := RX10) (T := TX10) (N := 2) (n := 2) hts inlX10 (hts (Cond.instantiable RX10 2) qw_502)
  obtain ⟨c11, i11, h11⟩ := u_known (C := RX11) (T := TX11) (N := 18) (n := 18) hts inlX11 (hts (Cond.instantiable RX11 18) qw_845)
  obtain ⟨c12, i12, h12⟩ := u_known (C := RX12) (T := TX12) (N := 35) (n := 35) hts inlX12 (hts (Cond.instantiable RX12 35) qw_846)
  refine ⟨(fun k => ([c0, c1, c2, c3, c4, c5, c6, c7, c8, c9, c10, c11, c12] : List ClassId).getD k c0, fun k => ([i0, i1, i2, i3, i4, i5, i6, i7, i8, i9, i10, i11, i12] : List (Nat → Nat)).getD k i0), ?_⟩
  intro k q hq
  match k, hq with
  | 0, hq => cases hq; exact h0
  | 1, hq => cases hq; exact h1
  | 2, hq => cases hq; exact h2
  | 3, hq => cases hq; exact h3
  | 4, hq => cases hq; exact h4
  | 5, hq => cases hq; exact h5
  | 6, hq => cases hq; exact h6
  | 7, hq => cases hq; exact h7
  | 8, hq => cases hq; exact h8
  | 9, hq => cases hq; exact h9
  | 10, hq => cases hq; exact h10
  | 11, hq => cases hq; exact h11
  | 12, hq => cases hq; exact h12
  | k + 13, hq => simp [vwCl] at hq
theorem start_arr {args : Array Value} {s : State} {ty : FieldType} (h : (Cond.arrayClass ty).before args s = true) (hp : ∀ k : Nat, True) : ∃ cA : ClassId, s.vm.findClass ("[" ++ ty.toString) = some cA ∧ ∃ (k : Class) (comp : ClassId), s.vm.classes[cA]? = some k ∧ k.kind = .array comp ty := by
  obtain ⟨c, k, comp, h1, h2, h3⟩ := Cond.arrayClass_spec h
  exact ⟨c, h1, k, comp, h2, h3⟩
theorem start_of {s : State} {cA comp : ClassId} {k : Class} {ty : FieldType} (h2 : s.vm.classes[cA]? = some k) (h3 : k.kind = .array comp ty) : ArrOfT s cA ty := fun n z => ⟨fun k h => (by cases h), k, h2, comp, h3⟩
theorem start_K {args : Array Value} {s : State} {D : va_G} (hD : ∀ (k : Nat) (q : vw_C), vwCl[k]? = some q → u_Kn s q.1 q.2.1 q.2.2 (D.1 k) (D.2 k)) (hI : (Cond.arrayClass .int).before args s = true) (hJ : (Cond.arrayClass .long).before args s = true) (hB : (Cond.arrayClass .byte).before args s = true) (hZ : (Cond.arrayClass .boolean).before args s = true) (hN : va_AO RX2 s) (hR : va_AOA .long s) : ∃ g : Nat → ClassId, va_K D vwCl (TY g) s := by
  obtain ⟨c0, k0, p0, a0, b0, d0⟩ := Cond.arrayClass_spec hI
  obtain ⟨c1, k1, p1, a1, b1, d1⟩ := Cond.arrayClass_spec hJ
  obtain ⟨c2, k2, p2, a2, b2, d2⟩ := Cond.arrayClass_spec hB
  obtain ⟨c3, k3, p3, a3, b3, d3⟩ := Cond.arrayClass_spec hZ
  obtain ⟨p4, c4, k4, e4, -, b4, d4, a4⟩ := Cond.arrayOver_spec hN
  obtain ⟨p5, c5, k5, e5, -, b5, d5, a5⟩ := va_AOA.spec hR
  refine ⟨fun k => ([c0, c1, c2, c3, c4, c5] : List ClassId).getD k c0, hD, ?_⟩
  intro k q hq
  match k, hq with
  | 0, hq => cases hq; exact ⟨start_of b0 d0, a0⟩
  | 1, hq => cases hq; exact ⟨start_of b1 d1, a1⟩
  | 2, hq => cases hq; exact ⟨start_of b2 d2, a2⟩
  | 3, hq => cases hq; exact ⟨start_of b3 d3, a3⟩
  | 4, hq => cases hq; exact ⟨start_of b4 d4, ⟨k4, p4, b4, d4, e4, a4⟩⟩
  | 5, hq => cases hq; exact ⟨start_of b5 d5, a5⟩
  | k + 6, hq => simp [TY] at hq
theorem start_str {args : Array Value} {s : State} {A : Nat → Prop} (hA : ∀ a : Nat, a < s.heap.size → ¬ A a) (idx n : Nat) (bs : List Int32) (hn : n < 2 ^ 31) (h1 : (Cond.exactly (.string RX4 idx) "java/lang/String").before args s = true) (h2 : (Cond.eq (.field (.string RX4 idx) "java/lang/String" "coder" "B") (.int 0)).before args s = true) (h3 : (Cond.arrayOf (.field (.string RX4 idx) "java/lang/String" "value" "[B") .byte).before args s = true) (h4 : (Cond.eq (.length (.field (.string RX4 idx) "java/lang/String" "value" "[B")) (.int (Int32.ofNat n))).before args s = true) (h5 : ∀ j : Nat, j < n → (Cond.eq (.elem (.field (.string RX4 idx) "java/lang/String" "value" "[B") (.int (Int32.ofNat j))) (.int (bs.getD j 0))).before args s = true)
    (hz : va_Z "java/lang/String" "COMPACT_STRINGS" "Z" (.int 1) A s s.heap) (hf : va_Zq "jdk/internal/util/Preconditions" "SIOOBE_FORMATTER" "Ljava/util/function/BiFunction;" A s s.heap) {tx : String} (h6 : (Cond.stringRef RX4 idx tx).before args s = true) :
    ∃ a v : Nat, vk_R RX4 idx tx a s ∧ tStr a v n (fun j => bs.getD j 0) A s s.heap := by
  have z : ∀ i : Nat, i < 1 → i = 0 := fun i h => by omega
  obtain ⟨adK, adV, hS, he⟩ := vk_Sof (args := args) (N := 1) (tm := fun _ => .string RX4 idx) (len := [n]) (byt := [bs]) (A := A) (fun i hi => by rw [z i hi]; exact hn) (fun _ _ => h1) (fun _ _ => h2) (fun _ _ => h3) (fun i hi => by rw [z i hi]; exact h4) (fun i hi => by rw [z i hi]; exact h5) (fun i j hi hj hne => absurd ((z i hi).trans (z j hj).symm) hne) hA
  obtain ⟨q1, q2, q3, q4⟩ := hS.1 0 (by decide)
  exact ⟨adK 0, adV 0, vk_R.of h6 (he 0 (by decide)), hz, hf, q1, q2, q3, q4⟩
