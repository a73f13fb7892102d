theorem dX2_countTakable_0 : decode cX2_countTakable 0 = .ok (.aload_n 0, 1) := by decide +kernel
theorem dX2_countTakable_1 : decode cX2_countTakable 1 = .ok (.getfield 24, 3) := by decide +kernel
theorem dX2_countTakable_4 : decode cX2_countTakable 4 = .ok (.iload_n 1, 1) := by decide +kernel
theorem dX2_countTakable_5 : decode cX2_countTakable 5 = .ok (.iaload, 1) := by decide +kernel
theorem dX2_countTakable_6 : decode cX2_countTakable 6 = .ok (.iconst (-1), 1) := by decide +kernel
theorem dX2_countTakable_7 : decode cX2_countTakable 7 = .ok (.if_icmp .ne 12, 3) := by decide +kernel
theorem dX2_countTakable_10 : decode cX2_countTakable 10 = .ok (.aload_n 0, 1) := by decide +kernel
theorem dX2_countTakable_11 : decode cX2_countTakable 11 = .ok (.getfield 21, 3) := by decide +kernel
theorem dX2_countTakable_14 : decode cX2_countTakable 14 = .ok (.iload_n 1, 1) := by decide +kernel
theorem dX2_countTakable_15 : decode cX2_countTakable 15 = .ok (.iaload, 1) := by decide +kernel
theorem dX2_countTakable_16 : decode cX2_countTakable 16 = .ok (.goto 4, 3) := by decide +kernel
theorem dX2_countTakable_19 : decode cX2_countTakable 19 = .ok (.iconst 1, 1) := by decide +kernel
theorem dX2_countTakable_20 : decode cX2_countTakable 20 = .ok (.ireturn, 1) := by decide +kernel
theorem dX2_payingEnds_0 : decode cX2_payingEnds 0 = .ok (.iconst 0, 1) := by decide +kernel
theorem dX2_payingEnds_1 : decode cX2_payingEnds 1 = .ok (.istore_n 1, 1) := by decide +kernel
theorem dX2_payingEnds_2 : decode cX2_payingEnds 2 = .ok (.iconst 0, 1) := by decide +kernel
theorem dX2_payingEnds_3 : decode cX2_payingEnds 3 = .ok (.istore_n 2, 1) := by decide +kernel
theorem dX2_payingEnds_4 : decode cX2_payingEnds 4 = .ok (.iload_n 2, 1) := by decide +kernel
theorem dX2_payingEnds_5 : decode cX2_payingEnds 5 = .ok (.aload_n 0, 1) := by decide +kernel
theorem dX2_payingEnds_6 : decode cX2_payingEnds 6 = .ok (.getfield 33, 3) := by decide +kernel
theorem dX2_payingEnds_9 : decode cX2_payingEnds 9 = .ok (.if_icmp .ge 33, 3) := by decide +kernel
theorem dX2_payingEnds_12 : decode cX2_payingEnds 12 = .ok (.aload_n 0, 1) := by decide +kernel
theorem dX2_payingEnds_13 : decode cX2_payingEnds 13 = .ok (.getfield 9, 3) := by decide +kernel
theorem dX2_payingEnds_16 : decode cX2_payingEnds 16 = .ok (.iload_n 2, 1) := by decide +kernel
theorem dX2_payingEnds_17 : decode cX2_payingEnds 17 = .ok (.iaload, 1) := by decide +kernel
theorem dX2_payingEnds_18 : decode cX2_payingEnds 18 = .ok (.ifCond .ne 18, 3) := by decide +kernel
theorem dX2_payingEnds_21 : decode cX2_payingEnds 21 = .ok (.aload_n 0, 1) := by decide +kernel
theorem dX2_payingEnds_22 : decode cX2_payingEnds 22 = .ok (.getfield 15, 3) := by decide +kernel
theorem dX2_payingEnds_25 : decode cX2_payingEnds 25 = .ok (.iload_n 2, 1) := by decide +kernel
theorem dX2_payingEnds_26 : decode cX2_payingEnds 26 = .ok (.iaload, 1) := by decide +kernel
theorem dX2_payingEnds_27 : decode cX2_payingEnds 27 = .ok (.ifCond .le 9, 3) := by decide +kernel
theorem dX2_payingEnds_30 : decode cX2_payingEnds 30 = .ok (.iload_n 1, 1) := by decide +kernel
theorem dX2_payingEnds_31 : decode cX2_payingEnds 31 = .ok (.iconst 1, 1) := by decide +kernel
theorem dX2_payingEnds_32 : decode cX2_payingEnds 32 = .ok (.iload_n 2, 1) := by decide +kernel
theorem dX2_payingEnds_33 : decode cX2_payingEnds 33 = .ok (.ishl, 1) := by decide +kernel
theorem dX2_payingEnds_34 : decode cX2_payingEnds 34 = .ok (.ior, 1) := by decide +kernel
theorem dX2_payingEnds_35 : decode cX2_payingEnds 35 = .ok (.istore_n 1, 1) := by decide +kernel
theorem dX2_payingEnds_36 : decode cX2_payingEnds 36 = .ok (.iinc 2 1, 3) := by decide +kernel
theorem dX2_payingEnds_39 : decode cX2_payingEnds 39 = .ok (.goto (-35), 3) := by decide +kernel
theorem dX2_payingEnds_42 : decode cX2_payingEnds 42 = .ok (.iload_n 1, 1) := by decide +kernel
theorem dX2_payingEnds_43 : decode cX2_payingEnds 43 = .ok (.ireturn, 1) := by decide +kernel
set_option maxHeartbeats 4000000 in
set_option maxRecDepth 100000 in
theorem c_X2_has (l : Launch) (D : va_G) (g : Nat → ClassId) (n : Nat) (p0 : Int32) (n_nodes : Int32) (n_kind : Nat) (n_pay : Nat) (n_name : Nat) (n_ways : Nat) (n_held : Nat) (n_targets : Nat) (n_weights : Nat) (h_n_nodes : 0 ≤ (n_nodes : Int32).toInt ∧ (n_nodes : Int32).toInt ≤ 12) : Met l yX2_has (.code yX2_has cX2_has 2 (some .boolean) :: wsL_law) ({ frames := 0, cells := 0, slots := 0, locals := 0 }) (va_Pc [.ref n, .int p0] (fun U => va_P D vwCl [(n, .inr (2, [.int n_nodes, .ref n_kind, .ref n_pay, .ref n_name, .ref n_ways, .ref n_held, .ref n_targets, .ref n_weights]))] U.heap ∧ va_K D vwCl (TY g) U)) (vp_Si (fun r => (0 ≤ (r : Int32).toInt ∧ (r : Int32).toInt ≤ 1) ∧ (¬ r = 0 → 0 ≤ (p0 : Int32).toInt ∧ (p0 : Int32).toInt ≤ 11))) 0 0 (fun _ => False) := by
  refine Met.ofW (cc := cX2_has) (maxL := 2) (ret := (some .boolean)) (by decide) rfl ?_
  intro p e s m args below meth c s₁ B hml hv
  obtain ⟨ha, hP, hK⟩ := hv
  have hx := B.exec
  have hb := B.bytes
  have hr := B.returns
  have hts0 := atoms_spec (ws := (.code yX2_has cX2_has 2 (some .boolean) :: wsL_law)) B.pre
  have hts : ∀ w ∈ wsL_law, w.before args s = true := fun w h => hts0 w (List.mem_cons_of_mem _ h)
  have hown : s.vm.findClass RX2 = some m.cls := findClass_of_methodNamed B.named
  have hlocks := B.notSynchronized
  have hP : va_P D vwCl [(n, .inr (2, [.int n_nodes, .ref n_kind, .ref n_pay, .ref n_name, .ref n_ways, .ref n_held, .ref n_targets, .ref n_weights]))] s.heap := hP
  refine W.eq (g2 := entryFrame m ([.ref n, .int p0] : List Value).toArray 2) (by rw [ha]) ?_
  have hl := lv_entry ([.ref n, .int p0]) (n := 2) (Nat.le_of_ble_eq_true rfl)
  rw [lg_entry_eq]
  generalize (lg_sl ([.ref n, .int p0]) ++ List.replicate (2 - (lg_sl ([.ref n, .int p0])).length) Slot.unset).toArray = ls at hl ⊢
  have hl : lv_has ls 2 [(0, .ref n), (1, .int p0)] := hl
  refine lv_iload_n hx hb dX2_has_0 rfl (lv_at hl 1 rfl) ?_
  refine lv_if_lt (tgt := 16) hx hb dX2_has_1 (by decide) (fun c_58825 => ?_) (fun c_58825 => ?_)
  · skip
    have c_58825_i := Int32.lt_iff_toInt_lt.mp c_58825
    have h_58826 : (-2147483648) ≤ (p0 : Int32).toInt ∧ (p0 : Int32).toInt ≤ (-1) := nr_lt_l (tr_any p0) (⟨by decide, by decide⟩ : 0 ≤ (0 : Int32).toInt ∧ (0 : Int32).toInt ≤ 0) c_58825_i (by decide) (by decide)
    refine lv_iconst (v := 0) hx hb dX2_has_16 (by decide) ?_
    exact W.zret (v := 0) hx hb hr (by decide) (fun t ht hW => ⟨0, rfl, ⟨(⟨by decide, by decide⟩ : 0 ≤ (0 : Int32).toInt ∧ (0 : Int32).toInt ≤ 1), (fun h => absurd rfl h)⟩, ht⟩) (fun _ h => nomatch h) dX2_has_17
  · skip
    have c_58825_i := Int32.le_iff_toInt_le.mp (Int32.not_lt.mp c_58825)
    have h_58827 : 0 ≤ (p0 : Int32).toInt ∧ (p0 : Int32).toInt ≤ 2147483647 := nr_le_r (⟨by decide, by decide⟩ : 0 ≤ (0 : Int32).toInt ∧ (0 : Int32).toInt ≤ 0) (tr_any p0) c_58825_i (by decide) (by decide)
    refine lv_iload_n hx hb dX2_has_4 rfl (lv_at hl 1 rfl) ?_
    refine lv_aload_n hx hb dX2_has_5 rfl (lv_at hl 0 rfl) ?_
    refine va_get (D := D) (ci := 2) (v := .int n_nodes) (C := RX2) (T := TX2) (N := 8) hx hb hts inlX2 hown hK hP 0 rfl rfl 0 (by decide) (hts (Cond.fieldLink RX2 33 "ChanceRings$Net" "nodes" "I") qw_313) (fun _ h9 => h9) rfl dX2_has_6 ?_
    refine lv_icmp_ge (tgt := 16) hx hb dX2_has_9 (by decide) (fun c_58828 => ?_) (fun c_58828 => ?_)
    · skip
      refine lv_iconst (v := 0) hx hb dX2_has_16 (by decide) ?_
      exact W.zret (v := 0) hx hb hr (by decide) (fun t ht hW => ⟨0, rfl, ⟨(⟨by decide, by decide⟩ : 0 ≤ (0 : Int32).toInt ∧ (0 : Int32).toInt ≤ 1), (fun h => absurd rfl h)⟩, ht⟩) (fun _ h => nomatch h) dX2_has_17
    · skip
      have c_58828_i := Int32.lt_iff_toInt_lt.mp (Int32.not_le.mp c_58828)
      have h_58829 : 0 ≤ (p0 : Int32).toInt ∧ (p0 : Int32).toInt ≤ 11 := nr_lt_l h_58827 h_n_nodes c_58828_i (by decide) (by decide)
      have h_58830 : 1 ≤ (n_nodes : Int32).toInt ∧ (n_nodes : Int32).toInt ≤ 12 := nr_lt_r h_58827 h_n_nodes c_58828_i (by decide) (by decide)
      refine lv_iconst (v := 1) hx hb dX2_has_12 (by decide) ?_
      refine lv_goto (tgt := 17) hx hb dX2_has_13 (by decide) ?_
      exact W.zret (v := 1) hx hb hr (by decide) (fun t ht hW => ⟨1, rfl, ⟨(⟨by decide, by decide⟩ : 0 ≤ (1 : Int32).toInt ∧ (1 : Int32).toInt ≤ 1), (fun _ => (tr_w h_58829 (by decide) (by decide)))⟩, ht⟩) (fun _ h => nomatch h) dX2_has_17
set_option maxHeartbeats 4000000 in
set_option maxRecDepth 100000 in
theorem c_X2_canTake (l : Launch) (D : va_G) (g : Nat → ClassId) (n : Nat) (p0 : Int32) (p1 : Int32) (n_nodes : Int32) (n_kind : Nat) (n_pay : Nat) (n_name : Nat) (n_ways : Nat) (n_held : Nat) (n_targets : Nat) (n_weights : Nat) (n_fheld : Nat → Int32) (h_p0 : 0 ≤ (p0 : Int32).toInt ∧ (p0 : Int32).toInt ≤ 11) (h_n_nodes : 0 ≤ (n_nodes : Int32).toInt ∧ (n_nodes : Int32).toInt ≤ 12) (h_n_fheld : ∀ j : Nat, (-1) ≤ (n_fheld j).toInt ∧ (n_fheld j).toInt ≤ 2) : Met l yX2_canTake (.code yX2_canTake cX2_canTake 3 (some .boolean) :: wsL_law) ({ frames := 0, cells := 0, slots := 0, locals := 0 }) (va_Pc [.ref n, .int p0, .int p1] (fun U => va_P D vwCl [(n, .inr (2, [.int n_nodes, .ref n_kind, .ref n_pay, .ref n_name, .ref n_ways, .ref n_held, .ref n_targets, .ref n_weights])), (n_held, .inl (g 0, 12, .inl n_fheld))] U.heap ∧ va_K D vwCl (TY g) U)) (vp_Si (fun r => 0 ≤ (r : Int32).toInt ∧ (r : Int32).toInt ≤ 1)) 0 0 (fun _ => False) := by
  refine Met.ofW (cc := cX2_canTake) (maxL := 3) (ret := (some .boolean)) (by decide) rfl ?_
  intro p e s m args below meth c s₁ B hml hv
  obtain ⟨ha, hP, hK⟩ := hv
  have hx := B.exec
  have hb := B.bytes
  have hr := B.returns
  have hts0 := atoms_spec (ws := (.code yX2_canTake cX2_canTake 3 (some .boolean) :: wsL_law)) B.pre
  have hts : ∀ w ∈ wsL_law, w.before args s = true := fun w h => hts0 w (List.mem_cons_of_mem _ h)
  have hown : s.vm.findClass RX2 = some m.cls := findClass_of_methodNamed B.named
  have hlocks := B.notSynchronized
  have hP : va_P D vwCl [(n, .inr (2, [.int n_nodes, .ref n_kind, .ref n_pay, .ref n_name, .ref n_ways, .ref n_held, .ref n_targets, .ref n_weights])), (n_held, .inl (g 0, 12, .inl n_fheld))] s.heap := hP
  refine W.eq (g2 := entryFrame m ([.ref n, .int p0, .int p1] : List Value).toArray 3) (by rw [ha]) ?_
  have hl := lv_entry ([.ref n, .int p0, .int p1]) (n := 3) (Nat.le_of_ble_eq_true rfl)
  rw [lg_entry_eq]
  generalize (lg_sl ([.ref n, .int p0, .int p1]) ++ List.replicate (3 - (lg_sl ([.ref n, .int p0, .int p1])).length) Slot.unset).toArray = ls at hl ⊢
  have hl : lv_has ls 3 [(0, .ref n), (1, .int p0), (2, .int p1)] := hl
  refine lv_aload_n hx hb dX2_canTake_0 rfl (lv_at hl 0 rfl) ?_
  refine va_get (D := D) (ci := 2) (v := .ref n_held) (C := RX2) (T := TX2) (N := 8) hx hb hts inlX2 hown hK hP 0 rfl rfl 5 (by decide) (hts (Cond.fieldLink RX2 24 "ChanceRings$Net" "held" "[I") qw_314) (fun _ h9 => h9) rfl dX2_canTake_1 ?_
  refine lv_iload_n hx hb dX2_canTake_4 rfl (lv_at hl 1 rfl) ?_
  refine va_iald hx hb hK hP 1 0 rfl rfl (tr_in h_p0 (by decide) (by decide)) dX2_canTake_5 ?_
  refine lv_topi (fun v_58831 v_58831_e => ?_)
  have h_v_58831 : (-1) ≤ (v_58831 : Int32).toInt ∧ (v_58831 : Int32).toInt ≤ 2 := by rw [v_58831_e]; exact h_n_fheld _
  refine lv_iconst (v := (-1)) hx hb dX2_canTake_6 (by decide) ?_
  refine lv_icmp_eq (tgt := 20) hx hb dX2_canTake_7 (by decide) (fun c_58832 => ?_) (fun c_58832 => ?_)
  · skip
    have c_58832_i : (v_58831 : Int32).toInt = ((-1) : Int32).toInt := congrArg Int32.toInt c_58832
    have h_58833 : (-1) ≤ (v_58831 : Int32).toInt ∧ (v_58831 : Int32).toInt ≤ (-1) := nr_eq_l h_v_58831 (⟨by decide, by decide⟩ : (-1) ≤ ((-1) : Int32).toInt ∧ ((-1) : Int32).toInt ≤ (-1)) c_58832_i (by decide) (by decide)
    refine lv_iconst (v := 1) hx hb dX2_canTake_20 (by decide) ?_
    refine lv_goto (tgt := 25) hx hb dX2_canTake_21 (by decide) ?_
    exact W.zret (v := 1) hx hb hr (by decide) (fun t ht hW => ⟨1, rfl, (⟨by decide, by decide⟩ : 0 ≤ (1 : Int32).toInt ∧ (1 : Int32).toInt ≤ 1), ht⟩) (fun _ h => nomatch h) dX2_canTake_25
  · skip
    have c_58832_i : ¬ (v_58831 : Int32).toInt = ((-1) : Int32).toInt := (fun q => c_58832 (Int32.toInt_inj.mp q))
    have h_58834 : 0 ≤ (v_58831 : Int32).toInt ∧ (v_58831 : Int32).toInt ≤ 2 := nr_ne_l h_v_58831 (⟨by decide, by decide⟩ : (-1) ≤ ((-1) : Int32).toInt ∧ ((-1) : Int32).toInt ≤ (-1)) c_58832_i (by decide) (by decide)
    refine lv_aload_n hx hb dX2_canTake_10 rfl (lv_at hl 0 rfl) ?_
    refine va_get (D := D) (ci := 2) (v := .ref n_held) (C := RX2) (T := TX2) (N := 8) hx hb hts inlX2 hown hK hP 0 rfl rfl 5 (by decide) (hts (Cond.fieldLink RX2 24 "ChanceRings$Net" "held" "[I") qw_314) (fun _ h9 => h9) rfl dX2_canTake_11 ?_
    refine lv_iload_n hx hb dX2_canTake_14 rfl (lv_at hl 1 rfl) ?_
    refine va_iald hx hb hK hP 1 0 rfl rfl (tr_in h_p0 (by decide) (by decide)) dX2_canTake_15 ?_
    refine tz_i (y := v_58831) v_58831_e.symm ?_
    refine lv_iload_n hx hb dX2_canTake_16 rfl (lv_at hl 2 rfl) ?_
    refine lv_icmp_ne (tgt := 24) hx hb dX2_canTake_17 (by decide) (fun c_58835 => ?_) (fun c_58835 => ?_)
    · skip
      refine lv_iconst (v := 0) hx hb dX2_canTake_24 (by decide) ?_
      exact W.zret (v := 0) hx hb hr (by decide) (fun t ht hW => ⟨0, rfl, (⟨by decide, by decide⟩ : 0 ≤ (0 : Int32).toInt ∧ (0 : Int32).toInt ≤ 1), ht⟩) (fun _ h => nomatch h) dX2_canTake_25
    · skip
      refine lv_iconst (v := 1) hx hb dX2_canTake_20 (by decide) ?_
      refine lv_goto (tgt := 25) hx hb dX2_canTake_21 (by decide) ?_
      exact W.zret (v := 1) hx hb hr (by decide) (fun t ht hW => ⟨1, rfl, (⟨by decide, by decide⟩ : 0 ≤ (1 : Int32).toInt ∧ (1 : Int32).toInt ≤ 1), ht⟩) (fun _ h => nomatch h) dX2_canTake_25
set_option maxHeartbeats 4000000 in
set_option maxRecDepth 100000 in
theorem c_X2_target (l : Launch) (D : va_G) (g : Nat → ClassId) (n : Nat) (p0 : Int32) (p1 : Int32) (n_nodes : Int32) (n_kind : Nat) (n_pay : Nat) (n_name : Nat) (n_ways : Nat) (n_held : Nat) (n_targets : Nat) (n_weights : Nat) (n_ftargets : Nat → Int32) (h_p0 : 0 ≤ (p0 : Int32).toInt ∧ (p0 : Int32).toInt ≤ 11) (h_p1 : 0 ≤ (p1 : Int32).toInt ∧ (p1 : Int32).toInt ≤ 2) (h_n_nodes : 0 ≤ (n_nodes : Int32).toInt ∧ (n_nodes : Int32).toInt ≤ 12) (h_n_ftargets : ∀ j : Nat, 0 ≤ (n_ftargets j).toInt ∧ (n_ftargets j).toInt ≤ 11) : Met l yX2_target (.code yX2_target cX2_target 3 (some .int) :: wsL_law) ({ frames := 0, cells := 0, slots := 0, locals := 0 }) (va_Pc [.ref n, .int p0, .int p1] (fun U => va_P D vwCl [(n, .inr (2, [.int n_nodes, .ref n_kind, .ref n_pay, .ref n_name, .ref n_ways, .ref n_held, .ref n_targets, .ref n_weights])), (n_targets, .inl (g 0, 36, .inl n_ftargets))] U.heap ∧ va_K D vwCl (TY g) U)) (vp_Si (fun r => 0 ≤ (r : Int32).toInt ∧ (r : Int32).toInt ≤ 11)) 0 0 (fun _ => False) := by
  refine Met.ofW (cc := cX2_target) (maxL := 3) (ret := (some .int)) (by decide) rfl ?_
  intro p e s m args below meth c s₁ B hml hv
  obtain ⟨ha, hP, hK⟩ := hv
  have hx := B.exec
  have hb := B.bytes
  have hr := B.returns
  have hts0 := atoms_spec (ws := (.code yX2_target cX2_target 3 (some .int) :: wsL_law)) B.pre
  have hts : ∀ w ∈ wsL_law, w.before args s = true := fun w h => hts0 w (List.mem_cons_of_mem _ h)
  have hown : s.vm.findClass RX2 = some m.cls := findClass_of_methodNamed B.named
  have hlocks := B.notSynchronized
  have hP : va_P D vwCl [(n, .inr (2, [.int n_nodes, .ref n_kind, .ref n_pay, .ref n_name, .ref n_ways, .ref n_held, .ref n_targets, .ref n_weights])), (n_targets, .inl (g 0, 36, .inl n_ftargets))] s.heap := hP
  refine W.eq (g2 := entryFrame m ([.ref n, .int p0, .int p1] : List Value).toArray 3) (by rw [ha]) ?_
  have hl := lv_entry ([.ref n, .int p0, .int p1]) (n := 3) (Nat.le_of_ble_eq_true rfl)
  rw [lg_entry_eq]
  generalize (lg_sl ([.ref n, .int p0, .int p1]) ++ List.replicate (3 - (lg_sl ([.ref n, .int p0, .int p1])).length) Slot.unset).toArray = ls at hl ⊢
  have hl : lv_has ls 3 [(0, .ref n), (1, .int p0), (2, .int p1)] := hl
  refine lv_aload_n hx hb dX2_target_0 rfl (lv_at hl 0 rfl) ?_
  refine va_get (D := D) (ci := 2) (v := .ref n_targets) (C := RX2) (T := TX2) (N := 8) hx hb hts inlX2 hown hK hP 0 rfl rfl 6 (by decide) (hts (Cond.fieldLink RX2 27 "ChanceRings$Net" "targets" "[I") qw_315) (fun _ h9 => h9) rfl dX2_target_1 ?_
  refine lv_iload_n hx hb dX2_target_4 rfl (lv_at hl 1 rfl) ?_
  refine lv_iconst (v := 3) hx hb dX2_target_5 (by decide) ?_
  refine lv_imul hx hb dX2_target_6 ?_
  refine lv_topi (fun v_58836 v_58836_e => ?_)
  have h_v_58836 : 0 ≤ (v_58836 : Int32).toInt ∧ (v_58836 : Int32).toInt ≤ 33 := by rw [v_58836_e]; exact tr_mul h_p0 (⟨by decide, by decide⟩ : 3 ≤ (3 : Int32).toInt ∧ (3 : Int32).toInt ≤ 3) (by decide) (by decide) (by decide) (by decide)
  refine lv_iload_n hx hb dX2_target_7 rfl (lv_at hl 2 rfl) ?_
  refine lv_iadd hx hb dX2_target_8 ?_
  refine lv_topi (fun v_58837 v_58837_e => ?_)
  have h_v_58837 : 0 ≤ (v_58837 : Int32).toInt ∧ (v_58837 : Int32).toInt ≤ 35 := by rw [v_58837_e]; exact tr_add h_v_58836 h_p1 (by decide) (by decide) (by decide) (by decide)
  refine va_iald hx hb hK hP 1 0 rfl rfl (tr_in h_v_58837 (by decide) (by decide)) dX2_target_9 ?_
  refine lv_topi (fun v_58838 v_58838_e => ?_)
  have h_v_58838 : 0 ≤ (v_58838 : Int32).toInt ∧ (v_58838 : Int32).toInt ≤ 11 := by rw [v_58838_e]; exact h_n_ftargets _
  exact W.iret (v := v_58838) hx hb hr (fun t ht hW => ⟨v_58838, rfl, (tr_w h_v_58838 (by decide) (by decide)), ht⟩) (fun _ h => nomatch h) dX2_target_10
set_option maxHeartbeats 4000000 in
set_option maxRecDepth 100000 in
theorem c_X2_payingEnds (l : Launch) (D : va_G) (g : Nat → ClassId) (n : Nat) (n_nodes : Int32) (n_kind : Nat) (n_pay : Nat) (n_name : Nat) (n_ways : Nat) (n_held : Nat) (n_targets : Nat) (n_weights : Nat) (n_fkind : Nat → Int32) (n_fpay : Nat → Int32) (h_n_nodes : 0 ≤ (n_nodes : Int32).toInt ∧ (n_nodes : Int32).toInt ≤ 12) (h_n_fkind : ∀ j : Nat, 0 ≤ (n_fkind j).toInt ∧ (n_fkind j).toInt ≤ 3) : Met l yX2_payingEnds (.code yX2_payingEnds cX2_payingEnds 3 (some .int) :: wsL_law) ({ frames := 0, cells := 0, slots := 0, locals := 0 }) (va_Pc [.ref n] (fun U => va_P D vwCl [(n, .inr (2, [.int n_nodes, .ref n_kind, .ref n_pay, .ref n_name, .ref n_ways, .ref n_held, .ref n_targets, .ref n_weights])), (n_kind, .inl (g 0, 12, .inl n_fkind)), (n_pay, .inl (g 0, 12, .inl n_fpay))] U.heap ∧ va_K D vwCl (TY g) U)) (vp_Si (fun r => True)) 0 0 (fun _ => False) := by
  refine Met.ofW (cc := cX2_payingEnds) (maxL := 3) (ret := (some .int)) (by decide) rfl ?_
  intro p e s m args below meth c s₁ B hml hv
  obtain ⟨ha, hP, hK⟩ := hv
  have hx := B.exec
  have hb := B.bytes
  have hr := B.returns
  have hts0 := atoms_spec (ws := (.code yX2_payingEnds cX2_payingEnds 3 (some .int) :: wsL_law)) B.pre
  have hts : ∀ w ∈ wsL_law, w.before args s = true := fun w h => hts0 w (List.mem_cons_of_mem _ h)
  have hown : s.vm.findClass RX2 = some m.cls := findClass_of_methodNamed B.named
  have hlocks := B.notSynchronized
  have hP : va_P D vwCl [(n, .inr (2, [.int n_nodes, .ref n_kind, .ref n_pay, .ref n_name, .ref n_ways, .ref n_held, .ref n_targets, .ref n_weights])), (n_kind, .inl (g 0, 12, .inl n_fkind)), (n_pay, .inl (g 0, 12, .inl n_fpay))] s.heap := hP
  refine W.eq (g2 := entryFrame m ([.ref n] : List Value).toArray 3) (by rw [ha]) ?_
  have hl := lv_entry ([.ref n]) (n := 3) (Nat.le_of_ble_eq_true rfl)
  rw [lg_entry_eq]
  generalize (lg_sl ([.ref n]) ++ List.replicate (3 - (lg_sl ([.ref n])).length) Slot.unset).toArray = ls at hl ⊢
  have hl : lv_has ls 3 [(0, .ref n)] := hl
  refine lv_iconst (v := 0) hx hb dX2_payingEnds_0 (by decide) ?_
  refine lv_istore_n (lv' := [(1, .int 0), (0, .ref n)]) hx hb dX2_payingEnds_1 rfl hl (by decide) rfl (fun ls hl => ?_)
  refine lv_iconst (v := 0) hx hb dX2_payingEnds_2 (by decide) ?_
  refine lv_istore_n (lv' := [(2, .int 0), (1, .int 0), (0, .ref n)]) hx hb dX2_payingEnds_3 rfl hl (by decide) rfl (fun ls hl => ?_)
  have lp_58978 : ∀ (n_58978 : Nat) (x_58976 : Int32) (x_58977 : Int32) (ls : Array Slot), (0 ≤ (x_58976 : Int32).toInt ∧ (x_58976 : Int32).toInt ≤ 12) → (12 - x_58976.toInt < (n_58978 : Int)) → lv_has ls 3 [(2, .int x_58976), (1, .int x_58977), (0, .ref n)] → W p l e (headSpec (.code yX2_payingEnds cX2_payingEnds 3 (some .int) :: wsL_law) ({ frames := 0, cells := 0, slots := 0, locals := 0 })).room s m args below meth c s.heap [] 0 0 (MQ below (vp_Si (fun r => True)) args s 0 0 (fun _ => False)) (F0 m 4 ls []) := by
    intro n_58978
    induction n_58978 with
    | zero =>
      intro x_58976 x_58977 ls h_x_58976 hm_58978 hl
      exfalso; omega
    | succ n_58978 ih_58978 =>
      intro x_58976 x_58977 ls h_x_58976 hm_58978 hl
      refine lv_iload_n hx hb dX2_payingEnds_4 rfl (lv_at hl 0 rfl) ?_
      refine lv_aload_n hx hb dX2_payingEnds_5 rfl (lv_at hl 2 rfl) ?_
      refine va_get (D := D) (ci := 2) (v := .int n_nodes) (C := RX2) (T := TX2) (N := 8) hx hb hts inlX2 hown hK hP 0 rfl rfl 0 (by decide) (hts (Cond.fieldLink RX2 33 "ChanceRings$Net" "nodes" "I") qw_313) (fun _ h9 => h9) rfl dX2_payingEnds_6 ?_
      refine lv_icmp_ge (tgt := 42) hx hb dX2_payingEnds_9 (by decide) (fun c_58979 => ?_) (fun c_58979 => ?_)
      · skip
        refine lv_iload_n hx hb dX2_payingEnds_42 rfl (lv_at hl 1 rfl) ?_
        exact W.iret (v := x_58977) hx hb hr (fun t ht hW => ⟨x_58977, rfl, trivial, ht⟩) (fun _ h => nomatch h) dX2_payingEnds_43
      · skip
        have c_58979_i := Int32.lt_iff_toInt_lt.mp (Int32.not_le.mp c_58979)
        have h_58980 : 0 ≤ (x_58976 : Int32).toInt ∧ (x_58976 : Int32).toInt ≤ 11 := nr_lt_l h_x_58976 h_n_nodes c_58979_i (by decide) (by decide)
        have h_58981 : 1 ≤ (n_nodes : Int32).toInt ∧ (n_nodes : Int32).toInt ≤ 12 := nr_lt_r h_x_58976 h_n_nodes c_58979_i (by decide) (by decide)
        refine lv_aload_n hx hb dX2_payingEnds_12 rfl (lv_at hl 2 rfl) ?_
        refine va_get (D := D) (ci := 2) (v := .ref n_kind) (C := RX2) (T := TX2) (N := 8) hx hb hts inlX2 hown hK hP 0 rfl rfl 1 (by decide) (hts (Cond.fieldLink RX2 9 "ChanceRings$Net" "kind" "[I") qw_316) (fun _ h9 => h9) rfl dX2_payingEnds_13 ?_
        refine lv_iload_n hx hb dX2_payingEnds_16 rfl (lv_at hl 0 rfl) ?_
        refine va_iald hx hb hK hP 1 0 rfl rfl (tr_in h_58980 (by decide) (by decide)) dX2_payingEnds_17 ?_
        refine lv_topi (fun v_58982 v_58982_e => ?_)
        have h_v_58982 : 0 ≤ (v_58982 : Int32).toInt ∧ (v_58982 : Int32).toInt ≤ 3 := by rw [v_58982_e]; exact h_n_fkind _
        refine lv_if_ne (tgt := 36) hx hb dX2_payingEnds_18 (by decide) (fun c_58983 => ?_) (fun c_58983 => ?_)
        · skip
          have c_58983_i : ¬ (v_58982 : Int32).toInt = (0 : Int32).toInt := (fun q => c_58983 (Int32.toInt_inj.mp q))
          have h_58984 : 1 ≤ (v_58982 : Int32).toInt ∧ (v_58982 : Int32).toInt ≤ 3 := nr_ne_l h_v_58982 (⟨by decide, by decide⟩ : 0 ≤ (0 : Int32).toInt ∧ (0 : Int32).toInt ≤ 0) c_58983_i (by decide) (by decide)
          obtain ⟨v_58986, v_58986_e⟩ : ∃ y : Int32, y = x_58976 + Int32.ofInt 1 := ⟨_, rfl⟩
          have h_v_58986 : 1 ≤ (v_58986 : Int32).toInt ∧ (v_58986 : Int32).toInt ≤ 12 := by rw [v_58986_e]; exact tr_add h_58980 (⟨by decide, by decide⟩ : 1 ≤ (Int32.ofInt 1 : Int32).toInt ∧ (Int32.ofInt 1 : Int32).toInt ≤ 1) (by decide) (by decide) (by decide) (by decide)
          have q_v_58986 : v_58986.toInt = x_58976.toInt + 1 := by rw [v_58986_e]; exact tr_addE h_58980 (⟨by decide, by decide⟩ : 1 ≤ (Int32.ofInt 1 : Int32).toInt ∧ (Int32.ofInt 1 : Int32).toInt ≤ 1) (by decide) (by decide)
          refine lv_iinc (v := v_58986) (lv' := [(2, .int v_58986), (1, .int x_58977), (0, .ref n)]) hx hb dX2_payingEnds_36 hl (k := 0) rfl v_58986_e.symm (by decide) rfl (fun ls hl => ?_)
          refine lv_goto (tgt := 4) hx hb dX2_payingEnds_39 (by decide) ?_
          exact ih_58978 v_58986 x_58977 ls (tr_w h_v_58986 (by decide) (by decide)) (by omega) (lv_sub hl [0, 1, 2] rfl)
        · skip
          have c_58983_i : (v_58982 : Int32).toInt = (0 : Int32).toInt := congrArg Int32.toInt c_58983
          have h_58985 : 0 ≤ (v_58982 : Int32).toInt ∧ (v_58982 : Int32).toInt ≤ 0 := nr_eq_l h_v_58982 (⟨by decide, by decide⟩ : 0 ≤ (0 : Int32).toInt ∧ (0 : Int32).toInt ≤ 0) c_58983_i (by decide) (by decide)
          refine lv_aload_n hx hb dX2_payingEnds_21 rfl (lv_at hl 2 rfl) ?_
          refine va_get (D := D) (ci := 2) (v := .ref n_pay) (C := RX2) (T := TX2) (N := 8) hx hb hts inlX2 hown hK hP 0 rfl rfl 2 (by decide) (hts (Cond.fieldLink RX2 15 "ChanceRings$Net" "pay" "[I") qw_317) (fun _ h9 => h9) rfl dX2_payingEnds_22 ?_
          refine lv_iload_n hx hb dX2_payingEnds_25 rfl (lv_at hl 0 rfl) ?_
          refine va_iald hx hb hK hP 2 0 rfl rfl (tr_in h_58980 (by decide) (by decide)) dX2_payingEnds_26 ?_
          refine lv_topi (fun v_58987 v_58987_e => ?_)
          refine lv_if_le (tgt := 36) hx hb dX2_payingEnds_27 (by decide) (fun c_58988 => ?_) (fun c_58988 => ?_)
          · skip
            have c_58988_i := Int32.le_iff_toInt_le.mp c_58988
            have h_58989 : (-2147483648) ≤ (v_58987 : Int32).toInt ∧ (v_58987 : Int32).toInt ≤ 0 := nr_le_l (tr_any v_58987) (⟨by decide, by decide⟩ : 0 ≤ (0 : Int32).toInt ∧ (0 : Int32).toInt ≤ 0) c_58988_i (by decide) (by decide)
            obtain ⟨v_58991, v_58991_e⟩ : ∃ y : Int32, y = x_58976 + Int32.ofInt 1 := ⟨_, rfl⟩
            have h_v_58991 : 1 ≤ (v_58991 : Int32).toInt ∧ (v_58991 : Int32).toInt ≤ 12 := by rw [v_58991_e]; exact tr_add h_58980 (⟨by decide, by decide⟩ : 1 ≤ (Int32.ofInt 1 : Int32).toInt ∧ (Int32.ofInt 1 : Int32).toInt ≤ 1) (by decide) (by decide) (by decide) (by decide)
            have q_v_58991 : v_58991.toInt = x_58976.toInt + 1 := by rw [v_58991_e]; exact tr_addE h_58980 (⟨by decide, by decide⟩ : 1 ≤ (Int32.ofInt 1 : Int32).toInt ∧ (Int32.ofInt 1 : Int32).toInt ≤ 1) (by decide) (by decide)
            refine lv_iinc (v := v_58991) (lv' := [(2, .int v_58991), (1, .int x_58977), (0, .ref n)]) hx hb dX2_payingEnds_36 hl (k := 0) rfl v_58991_e.symm (by decide) rfl (fun ls hl => ?_)
            refine lv_goto (tgt := 4) hx hb dX2_payingEnds_39 (by decide) ?_
            exact ih_58978 v_58991 x_58977 ls (tr_w h_v_58991 (by decide) (by decide)) (by (first | (clear h_v_58982 c_58983_i h_58985 c_58988_i h_58989; omega) | omega)) (lv_sub hl [0, 1, 2] rfl)
          · skip
            have c_58988_i := Int32.lt_iff_toInt_lt.mp (Int32.not_le.mp c_58988)
            have h_58990 : 1 ≤ (v_58987 : Int32).toInt ∧ (v_58987 : Int32).toInt ≤ 2147483647 := nr_lt_r (⟨by decide, by decide⟩ : 0 ≤ (0 : Int32).toInt ∧ (0 : Int32).toInt ≤ 0) (tr_any v_58987) c_58988_i (by decide) (by decide)
            refine lv_iload_n hx hb dX2_payingEnds_30 rfl (lv_at hl 1 rfl) ?_
            refine lv_iconst (v := 1) hx hb dX2_payingEnds_31 (by decide) ?_
            refine lv_iload_n hx hb dX2_payingEnds_32 rfl (lv_at hl 0 rfl) ?_
            refine lv_ishl hx hb dX2_payingEnds_33 ?_
            refine lv_topi (fun v_58992 v_58992_e => ?_)
            refine lv_ior hx hb dX2_payingEnds_34 ?_
            refine lv_topi (fun v_58993 v_58993_e => ?_)
            refine lv_istore_n (lv' := [(1, .int v_58993), (2, .int x_58976), (0, .ref n)]) hx hb dX2_payingEnds_35 rfl hl (by decide) rfl (fun ls hl => ?_)
            obtain ⟨v_58994, v_58994_e⟩ : ∃ y : Int32, y = x_58976 + Int32.ofInt 1 := ⟨_, rfl⟩
            have h_v_58994 : 1 ≤ (v_58994 : Int32).toInt ∧ (v_58994 : Int32).toInt ≤ 12 := by rw [v_58994_e]; exact tr_add h_58980 (⟨by decide, by decide⟩ : 1 ≤ (Int32.ofInt 1 : Int32).toInt ∧ (Int32.ofInt 1 : Int32).toInt ≤ 1) (by decide) (by decide) (by decide) (by decide)
            have q_v_58994 : v_58994.toInt = x_58976.toInt + 1 := by rw [v_58994_e]; exact tr_addE h_58980 (⟨by decide, by decide⟩ : 1 ≤ (Int32.ofInt 1 : Int32).toInt ∧ (Int32.ofInt 1 : Int32).toInt ≤ 1) (by decide) (by decide)
            refine lv_iinc (v := v_58994) (lv' := [(2, .int v_58994), (1, .int v_58993), (0, .ref n)]) hx hb dX2_payingEnds_36 hl (k := 1) rfl v_58994_e.symm (by decide) rfl (fun ls hl => ?_)
            refine lv_goto (tgt := 4) hx hb dX2_payingEnds_39 (by decide) ?_
            exact ih_58978 v_58994 v_58993 ls (tr_w h_v_58994 (by decide) (by decide)) (by (first | (clear h_v_58982 c_58983_i h_58985 c_58988_i h_58990; omega) | omega)) (lv_sub hl [0, 1, 2] rfl)
  exact lp_58978 13 0 0 ls (⟨by decide, by decide⟩ : 0 ≤ (0 : Int32).toInt ∧ (0 : Int32).toInt ≤ 12) (by decide) (lv_sub hl [0, 1, 2] rfl)
set_option maxHeartbeats 4000000 in
set_option maxRecDepth 100000 in
theorem c_X2_nextNodes (l : Launch) (D : va_G) (g : Nat → ClassId) (n : Nat) (p0 : Int32) (n_nodes : Int32) (n_kind : Nat) (n_pay : Nat) (n_name : Nat) (n_ways : Nat) (n_held : Nat) (n_targets : Nat) (n_weights : Nat) (n_fways : Nat → Int32) (n_fheld : Nat → Int32) (n_ftargets : Nat → Int32) (h_p0 : 0 ≤ (p0 : Int32).toInt ∧ (p0 : Int32).toInt ≤ 11) (h_n_nodes : 0 ≤ (n_nodes : Int32).toInt ∧ (n_nodes : Int32).toInt ≤ 12) (h_n_fways : ∀ j : Nat, 0 ≤ (n_fways j).toInt ∧ (n_fways j).toInt ≤ 3) (h_n_fheld : ∀ j : Nat, (-1) ≤ (n_fheld j).toInt ∧ (n_fheld j).toInt ≤ 2) (h_n_ftargets : ∀ j : Nat, 0 ≤ (n_ftargets j).toInt ∧ (n_ftargets j).toInt ≤ 11) : Met l yX2_nextNodes (.code yX2_nextNodes cX2_nextNodes 4 (some .int) :: wsL_law) ({ frames := 1, cells := 0, slots := 0, locals := 22 }) (va_Pc [.ref n, .int p0] (fun U => va_P D vwCl [(n, .inr (2, [.int n_nodes, .ref n_kind, .ref n_pay, .ref n_name, .ref n_ways, .ref n_held, .ref n_targets, .ref n_weights])), (n_ways, .inl (g 0, 12, .inl n_fways)), (n_held, .inl (g 0, 12, .inl n_fheld)), (n_targets, .inl (g 0, 36, .inl n_ftargets))] U.heap ∧ va_K D vwCl (TY g) U)) (vp_Si (fun r => True)) 0 0 (fun _ => False) := by
  refine Met.ofW (cc := cX2_nextNodes) (maxL := 4) (ret := (some .int)) (by decide) rfl ?_
  intro p e s m args below meth c s₁ B hml hv
  obtain ⟨ha, hP, hK⟩ := hv
  have hx := B.exec
  have hb := B.bytes
  have hr := B.returns
  have hts0 := atoms_spec (ws := (.code yX2_nextNodes cX2_nextNodes 4 (some .int) :: wsL_law)) B.pre
  have hts : ∀ w ∈ wsL_law, w.before args s = true := fun w h => hts0 w (List.mem_cons_of_mem _ h)
  have hown : s.vm.findClass RX2 = some m.cls := findClass_of_methodNamed B.named
  have hlocks := B.notSynchronized
  have hP : va_P D vwCl [(n, .inr (2, [.int n_nodes, .ref n_kind, .ref n_pay, .ref n_name, .ref n_ways, .ref n_held, .ref n_targets, .ref n_weights])), (n_ways, .inl (g 0, 12, .inl n_fways)), (n_held, .inl (g 0, 12, .inl n_fheld)), (n_targets, .inl (g 0, 36, .inl n_ftargets))] s.heap := hP
  refine W.eq (g2 := entryFrame m ([.ref n, .int p0] : List Value).toArray 4) (by rw [ha]) ?_
  have hl := lv_entry ([.ref n, .int p0]) (n := 4) (Nat.le_of_ble_eq_true rfl)
  rw [lg_entry_eq]
  generalize (lg_sl ([.ref n, .int p0]) ++ List.replicate (4 - (lg_sl ([.ref n, .int p0])).length) Slot.unset).toArray = ls at hl ⊢
  have hl : lv_has ls 4 [(0, .ref n), (1, .int p0)] := hl
  refine lv_iconst (v := 0) hx hb dX2_nextNodes_0 (by decide) ?_
  refine lv_istore_n (lv' := [(2, .int 0), (0, .ref n), (1, .int p0)]) hx hb dX2_nextNodes_1 rfl hl (by decide) rfl (fun ls hl => ?_)
  refine lv_iconst (v := 0) hx hb dX2_nextNodes_2 (by decide) ?_
  refine lv_istore_n (lv' := [(3, .int 0), (2, .int 0), (0, .ref n), (1, .int p0)]) hx hb dX2_nextNodes_3 rfl hl (by decide) rfl (fun ls hl => ?_)
  have lp_59061 : ∀ (n_59061 : Nat) (x_59059 : Int32) (x_59060 : Int32) (ls : Array Slot), (0 ≤ (x_59059 : Int32).toInt ∧ (x_59059 : Int32).toInt ≤ 3) → (3 - x_59059.toInt < (n_59061 : Int)) → lv_has ls 4 [(3, .int x_59059), (2, .int x_59060), (0, .ref n), (1, .int p0)] → W p l e (headSpec (.code yX2_nextNodes cX2_nextNodes 4 (some .int) :: wsL_law) ({ frames := 1, cells := 0, slots := 0, locals := 22 })).room s m args below meth c s.heap [] 0 0 (MQ below (vp_Si (fun r => True)) args s 0 0 (fun _ => False)) (F0 m 4 ls []) := by
    intro n_59061
    induction n_59061 with
    | zero =>
      intro x_59059 x_59060 ls h_x_59059 hm_59061 hl
      exfalso; omega
    | succ n_59061 ih_59061 =>
      intro x_59059 x_59060 ls h_x_59059 hm_59061 hl
      refine lv_iload_n hx hb dX2_nextNodes_4 rfl (lv_at hl 0 rfl) ?_
      refine lv_aload_n hx hb dX2_nextNodes_5 rfl (lv_at hl 2 rfl) ?_
      refine va_get (D := D) (ci := 2) (v := .ref n_ways) (C := RX2) (T := TX2) (N := 8) hx hb hts inlX2 hown hK hP 0 rfl rfl 4 (by decide) (hts (Cond.fieldLink RX2 21 "ChanceRings$Net" "ways" "[I") qw_318) (fun _ h9 => h9) rfl dX2_nextNodes_6 ?_
      refine lv_iload_n hx hb dX2_nextNodes_9 rfl (lv_at hl 3 rfl) ?_
      refine va_iald hx hb hK hP 1 0 rfl rfl (tr_in h_p0 (by decide) (by decide)) dX2_nextNodes_10 ?_
      refine lv_topi (fun v_59062 v_59062_e => ?_)
      have h_v_59062 : 0 ≤ (v_59062 : Int32).toInt ∧ (v_59062 : Int32).toInt ≤ 3 := by rw [v_59062_e]; exact h_n_fways _
      refine lv_icmp_ge (tgt := 40) hx hb dX2_nextNodes_11 (by decide) (fun c_59063 => ?_) (fun c_59063 => ?_)
      · skip
        refine lv_iload_n hx hb dX2_nextNodes_40 rfl (lv_at hl 1 rfl) ?_
        exact W.iret (v := x_59060) hx hb hr (fun t ht hW => ⟨x_59060, rfl, trivial, ht⟩) (fun _ h => nomatch h) dX2_nextNodes_41
      · skip
        have c_59063_i := Int32.lt_iff_toInt_lt.mp (Int32.not_le.mp c_59063)
        have h_59064 : 0 ≤ (x_59059 : Int32).toInt ∧ (x_59059 : Int32).toInt ≤ 2 := nr_lt_l h_x_59059 h_v_59062 c_59063_i (by decide) (by decide)
        have h_59065 : 1 ≤ (v_59062 : Int32).toInt ∧ (v_59062 : Int32).toInt ≤ 3 := nr_lt_r h_x_59059 h_v_59062 c_59063_i (by decide) (by decide)
        refine lv_aload_n hx hb dX2_nextNodes_14 rfl (lv_at hl 2 rfl) ?_
        refine lv_iload_n hx hb dX2_nextNodes_15 rfl (lv_at hl 3 rfl) ?_
        refine lv_iload_n hx hb dX2_nextNodes_16 rfl (lv_at hl 0 rfl) ?_
        have hPc := hP.sub (ws' := [(n, .inr (2, [.int n_nodes, .ref n_kind, .ref n_pay, .ref n_name, .ref n_ways, .ref n_held, .ref n_targets, .ref n_weights])), (n_held, .inl (g 0, 12, .inl n_fheld))]) [0, 2] rfl
        refine vp_callSi (va_Run.run (va_runV (As := [.int p0, .int x_59059]) (rest := []) ⟨hx, hb, hml, hown, hts⟩ (c_X2_canTake l D g n p0 x_59059 n_nodes n_kind n_pay n_name n_ways n_held n_targets n_weights n_fheld (tr_w h_p0 (by decide) (by decide)) (tr_w h_n_nodes (by decide) (by decide)) (tr_wa h_n_fheld (by decide) (by decide))) (cwV 2 hts (tz_gV qw_319 qw_320 qw_321 qw_322 qw_323) rfl rfl rfl (by decide +kernel) ⟨Nat.le_of_ble_eq_true rfl, Nat.le_of_ble_eq_true rfl⟩) ⟨tz_blS, va_recv hK hPc (ci := 2) (q0 := 0) rfl rfl, tz_preS hPc hK⟩ rfl rfl hl.1 rfl (lv_room (Nat.le_of_ble_eq_true rfl)) dX2_nextNodes_17 ⟨Nat.le_of_ble_eq_true rfl, Nat.le_of_ble_eq_true rfl⟩)) (fun r_59066 hw => ?_)
        have hw_59067 : 0 ≤ (r_59066 : Int32).toInt ∧ (r_59066 : Int32).toInt ≤ 1 := hw
        refine lv_if_eq (tgt := 34) hx hb dX2_nextNodes_20 (by decide) (fun c_59068 => ?_) (fun c_59068 => ?_)
        · skip
          have c_59068_i : (r_59066 : Int32).toInt = (0 : Int32).toInt := congrArg Int32.toInt c_59068
          have h_59069 : 0 ≤ (r_59066 : Int32).toInt ∧ (r_59066 : Int32).toInt ≤ 0 := nr_eq_l hw_59067 (⟨by decide, by decide⟩ : 0 ≤ (0 : Int32).toInt ∧ (0 : Int32).toInt ≤ 0) c_59068_i (by decide) (by decide)
          obtain ⟨v_59071, v_59071_e⟩ : ∃ y : Int32, y = x_59059 + Int32.ofInt 1 := ⟨_, rfl⟩
          have h_v_59071 : 1 ≤ (v_59071 : Int32).toInt ∧ (v_59071 : Int32).toInt ≤ 3 := by rw [v_59071_e]; exact tr_add h_59064 (⟨by decide, by decide⟩ : 1 ≤ (Int32.ofInt 1 : Int32).toInt ∧ (Int32.ofInt 1 : Int32).toInt ≤ 1) (by decide) (by decide) (by decide) (by decide)
          have q_v_59071 : v_59071.toInt = x_59059.toInt + 1 := by rw [v_59071_e]; exact tr_addE h_59064 (⟨by decide, by decide⟩ : 1 ≤ (Int32.ofInt 1 : Int32).toInt ∧ (Int32.ofInt 1 : Int32).toInt ≤ 1) (by decide) (by decide)
          refine lv_iinc (v := v_59071) (lv' := [(3, .int v_59071), (2, .int x_59060), (0, .ref n), (1, .int p0)]) hx hb dX2_nextNodes_34 hl (k := 0) rfl v_59071_e.symm (by decide) rfl (fun ls hl => ?_)
          refine lv_goto (tgt := 4) hx hb dX2_nextNodes_37 (by decide) ?_
          exact ih_59061 v_59071 x_59060 ls (tr_w h_v_59071 (by decide) (by decide)) (by (first | (clear h_p0 h_n_nodes hw_59067 c_59068_i h_59069; omega) | omega)) (lv_sub hl [0, 1, 2, 3] rfl)
        · skip
          have c_59068_i : ¬ (r_59066 : Int32).toInt = (0 : Int32).toInt := (fun q => c_59068 (Int32.toInt_inj.mp q))
          have h_59070 : 1 ≤ (r_59066 : Int32).toInt ∧ (r_59066 : Int32).toInt ≤ 1 := nr_ne_l hw_59067 (⟨by decide, by decide⟩ : 0 ≤ (0 : Int32).toInt ∧ (0 : Int32).toInt ≤ 0) c_59068_i (by decide) (by decide)
          refine lv_iload_n hx hb dX2_nextNodes_23 rfl (lv_at hl 1 rfl) ?_
          refine lv_iconst (v := 1) hx hb dX2_nextNodes_24 (by decide) ?_
          refine lv_aload_n hx hb dX2_nextNodes_25 rfl (lv_at hl 2 rfl) ?_
          refine lv_iload_n hx hb dX2_nextNodes_26 rfl (lv_at hl 3 rfl) ?_
          refine lv_iload_n hx hb dX2_nextNodes_27 rfl (lv_at hl 0 rfl) ?_
          have hPc := hP.sub (ws' := [(n, .inr (2, [.int n_nodes, .ref n_kind, .ref n_pay, .ref n_name, .ref n_ways, .ref n_held, .ref n_targets, .ref n_weights])), (n_targets, .inl (g 0, 36, .inl n_ftargets))]) [0, 3] rfl
          refine vp_callSi (va_Run.run (va_runV (As := [.int p0, .int x_59059]) (rest := [.int 1, .int x_59060]) ⟨hx, hb, hml, hown, hts⟩ (c_X2_target l D g n p0 x_59059 n_nodes n_kind n_pay n_name n_ways n_held n_targets n_weights n_ftargets (tr_w h_p0 (by decide) (by decide)) (tr_w h_59064 (by decide) (by decide)) (tr_w h_n_nodes (by decide) (by decide)) (tr_wa h_n_ftargets (by decide) (by decide))) (cwV 2 hts (tz_gV qw_324 qw_325 qw_326 qw_322 qw_327) rfl rfl rfl (by decide +kernel) ⟨Nat.le_of_ble_eq_true rfl, Nat.le_of_ble_eq_true rfl⟩) ⟨tz_blS, va_recv hK hPc (ci := 2) (q0 := 0) rfl rfl, tz_preS hPc hK⟩ rfl rfl hl.1 rfl (lv_room (Nat.le_of_ble_eq_true rfl)) dX2_nextNodes_28 ⟨Nat.le_of_ble_eq_true rfl, Nat.le_of_ble_eq_true rfl⟩)) (fun r_59072 hw => ?_)
          have hw_59073 : 0 ≤ (r_59072 : Int32).toInt ∧ (r_59072 : Int32).toInt ≤ 11 := hw
          refine lv_ishl hx hb dX2_nextNodes_31 ?_
          refine lv_topi (fun v_59074 v_59074_e => ?_)
          refine lv_ior hx hb dX2_nextNodes_32 ?_
          refine lv_topi (fun v_59075 v_59075_e => ?_)
          refine lv_istore_n (lv' := [(2, .int v_59075), (3, .int x_59059), (0, .ref n), (1, .int p0)]) hx hb dX2_nextNodes_33 rfl hl (by decide) rfl (fun ls hl => ?_)
          obtain ⟨v_59076, v_59076_e⟩ : ∃ y : Int32, y = x_59059 + Int32.ofInt 1 := ⟨_, rfl⟩
          have h_v_59076 : 1 ≤ (v_59076 : Int32).toInt ∧ (v_59076 : Int32).toInt ≤ 3 := by rw [v_59076_e]; exact tr_add h_59064 (⟨by decide, by decide⟩ : 1 ≤ (Int32.ofInt 1 : Int32).toInt ∧ (Int32.ofInt 1 : Int32).toInt ≤ 1) (by decide) (by decide) (by decide) (by decide)
          have q_v_59076 : v_59076.toInt = x_59059.toInt + 1 := by rw [v_59076_e]; exact tr_addE h_59064 (⟨by decide, by decide⟩ : 1 ≤ (Int32.ofInt 1 : Int32).toInt ∧ (Int32.ofInt 1 : Int32).toInt ≤ 1) (by decide) (by decide)
          refine lv_iinc (v := v_59076) (lv' := [(3, .int v_59076), (2, .int v_59075), (0, .ref n), (1, .int p0)]) hx hb dX2_nextNodes_34 hl (k := 1) rfl v_59076_e.symm (by decide) rfl (fun ls hl => ?_)
          refine lv_goto (tgt := 4) hx hb dX2_nextNodes_37 (by decide) ?_
          exact ih_59061 v_59076 v_59075 ls (tr_w h_v_59076 (by decide) (by decide)) (by (first | (clear h_p0 h_n_nodes hw_59067 c_59068_i h_59070 hw_59073; omega) | omega)) (lv_sub hl [0, 1, 2, 3] rfl)
  exact lp_59061 4 0 0 ls (⟨by decide, by decide⟩ : 0 ≤ (0 : Int32).toInt ∧ (0 : Int32).toInt ≤ 3) (by decide) (lv_sub hl [0, 1, 2, 3] rfl)
set_option maxHeartbeats 4000000 in
set_option maxRecDepth 100000 in
theorem c_X2_hasWay (l : Launch) (D : va_G) (g : Nat → ClassId) (n : Nat) (p0 : Int32) (p1 : Int32) (n_nodes : Int32) (n_kind : Nat) (n_pay : Nat) (n_name : Nat) (n_ways : Nat) (n_held : Nat) (n_targets : Nat) (n_weights : Nat) (n_fways : Nat → Int32) (h_n_nodes : 0 ≤ (n_nodes : Int32).toInt ∧ (n_nodes : Int32).toInt ≤ 12) (h_n_fways : ∀ j : Nat, 0 ≤ (n_fways j).toInt ∧ (n_fways j).toInt ≤ 3) : Met l yX2_hasWay (.code yX2_hasWay cX2_hasWay 3 (some .boolean) :: wsL_law) ({ frames := 1, cells := 0, slots := 0, locals := 21 }) (va_Pc [.ref n, .int p0, .int p1] (fun U => va_P D vwCl [(n, .inr (2, [.int n_nodes, .ref n_kind, .ref n_pay, .ref n_name, .ref n_ways, .ref n_held, .ref n_targets, .ref n_weights])), (n_ways, .inl (g 0, 12, .inl n_fways))] U.heap ∧ va_K D vwCl (TY g) U)) (vp_Si (fun r => (0 ≤ (r : Int32).toInt ∧ (r : Int32).toInt ≤ 1) ∧ (¬ r = 0 → 0 ≤ (p0 : Int32).toInt ∧ (p0 : Int32).toInt ≤ 11))) 0 0 (fun _ => False) := by
  refine Met.ofW (cc := cX2_hasWay) (maxL := 3) (ret := (some .boolean)) (by decide) rfl ?_
  intro p e s m args below meth c s₁ B hml hv
  obtain ⟨ha, hP, hK⟩ := hv
  have hx := B.exec
  have hb := B.bytes
  have hr := B.returns
  have hts0 := atoms_spec (ws := (.code yX2_hasWay cX2_hasWay 3 (some .boolean) :: wsL_law)) B.pre
  have hts : ∀ w ∈ wsL_law, w.before args s = true := fun w h => hts0 w (List.mem_cons_of_mem _ h)
  have hown : s.vm.findClass RX2 = some m.cls := findClass_of_methodNamed B.named
  have hlocks := B.notSynchronized
  have hP : va_P D vwCl [(n, .inr (2, [.int n_nodes, .ref n_kind, .ref n_pay, .ref n_name, .ref n_ways, .ref n_held, .ref n_targets, .ref n_weights])), (n_ways, .inl (g 0, 12, .inl n_fways))] s.heap := hP
  refine W.eq (g2 := entryFrame m ([.ref n, .int p0, .int p1] : List Value).toArray 3) (by rw [ha]) ?_
  have hl := lv_entry ([.ref n, .int p0, .int p1]) (n := 3) (Nat.le_of_ble_eq_true rfl)
  rw [lg_entry_eq]
  generalize (lg_sl ([.ref n, .int p0, .int p1]) ++ List.replicate (3 - (lg_sl ([.ref n, .int p0, .int p1])).length) Slot.unset).toArray = ls at hl ⊢
  have hl : lv_has ls 3 [(0, .ref n), (1, .int p0), (2, .int p1)] := hl
  refine lv_aload_n hx hb dX2_hasWay_0 rfl (lv_at hl 0 rfl) ?_
  refine lv_iload_n hx hb dX2_hasWay_1 rfl (lv_at hl 1 rfl) ?_
  have hPc := hP.sub (ws' := [(n, .inr (2, [.int n_nodes, .ref n_kind, .ref n_pay, .ref n_name, .ref n_ways, .ref n_held, .ref n_targets, .ref n_weights]))]) [0] rfl
  refine vp_callSi (va_Run.run (va_runV (As := [.int p0]) (rest := []) ⟨hx, hb, hml, hown, hts⟩ (c_X2_has l D g n p0 n_nodes n_kind n_pay n_name n_ways n_held n_targets n_weights (tr_w h_n_nodes (by decide) (by decide))) (cwV 1 hts (tz_gV qw_328 qw_329 qw_330 qw_322 qw_331) rfl rfl rfl (by decide +kernel) ⟨Nat.le_of_ble_eq_true rfl, Nat.le_of_ble_eq_true rfl⟩) ⟨tz_blS, va_recv hK hPc (ci := 2) (q0 := 0) rfl rfl, tz_preS hPc hK⟩ rfl rfl hl.1 rfl (lv_room (Nat.le_of_ble_eq_true rfl)) dX2_hasWay_2 ⟨Nat.le_of_ble_eq_true rfl, Nat.le_of_ble_eq_true rfl⟩)) (fun r_59077 hw => ?_)
  have hw_59078 : 0 ≤ (r_59077 : Int32).toInt ∧ (r_59077 : Int32).toInt ≤ 1 := hw.1
  have hw_59078_m : ¬ r_59077 = 0 → 0 ≤ (p0 : Int32).toInt ∧ (p0 : Int32).toInt ≤ 11 := hw.2
  refine lv_if_eq (tgt := 26) hx hb dX2_hasWay_5 (by decide) (fun c_59079 => ?_) (fun c_59079 => ?_)
  · skip
    have c_59079_i : (r_59077 : Int32).toInt = (0 : Int32).toInt := congrArg Int32.toInt c_59079
    have h_59080 : 0 ≤ (r_59077 : Int32).toInt ∧ (r_59077 : Int32).toInt ≤ 0 := nr_eq_l hw_59078 (⟨by decide, by decide⟩ : 0 ≤ (0 : Int32).toInt ∧ (0 : Int32).toInt ≤ 0) c_59079_i (by decide) (by decide)
    refine lv_iconst (v := 0) hx hb dX2_hasWay_26 (by decide) ?_
    exact W.zret (v := 0) hx hb hr (by decide) (fun t ht hW => ⟨0, rfl, ⟨(⟨by decide, by decide⟩ : 0 ≤ (0 : Int32).toInt ∧ (0 : Int32).toInt ≤ 1), (fun h => absurd rfl h)⟩, ht⟩) (fun _ h => nomatch h) dX2_hasWay_27
  · skip
    have h_59081 := hw_59078_m c_59079
    have c_59079_i : ¬ (r_59077 : Int32).toInt = (0 : Int32).toInt := (fun q => c_59079 (Int32.toInt_inj.mp q))
    have h_59082 : 1 ≤ (r_59077 : Int32).toInt ∧ (r_59077 : Int32).toInt ≤ 1 := nr_ne_l hw_59078 (⟨by decide, by decide⟩ : 0 ≤ (0 : Int32).toInt ∧ (0 : Int32).toInt ≤ 0) c_59079_i (by decide) (by decide)
    refine lv_iload_n hx hb dX2_hasWay_8 rfl (lv_at hl 2 rfl) ?_
    refine lv_if_lt (tgt := 26) hx hb dX2_hasWay_9 (by decide) (fun c_59083 => ?_) (fun c_59083 => ?_)
    · skip
      have c_59083_i := Int32.lt_iff_toInt_lt.mp c_59083
      have h_59084 : (-2147483648) ≤ (p1 : Int32).toInt ∧ (p1 : Int32).toInt ≤ (-1) := nr_lt_l (tr_any p1) (⟨by decide, by decide⟩ : 0 ≤ (0 : Int32).toInt ∧ (0 : Int32).toInt ≤ 0) c_59083_i (by decide) (by decide)
      refine lv_iconst (v := 0) hx hb dX2_hasWay_26 (by decide) ?_
      exact W.zret (v := 0) hx hb hr (by decide) (fun t ht hW => ⟨0, rfl, ⟨(⟨by decide, by decide⟩ : 0 ≤ (0 : Int32).toInt ∧ (0 : Int32).toInt ≤ 1), (fun h => absurd rfl h)⟩, ht⟩) (fun _ h => nomatch h) dX2_hasWay_27
    · skip
      have c_59083_i := Int32.le_iff_toInt_le.mp (Int32.not_lt.mp c_59083)
      have h_59085 : 0 ≤ (p1 : Int32).toInt ∧ (p1 : Int32).toInt ≤ 2147483647 := nr_le_r (⟨by decide, by decide⟩ : 0 ≤ (0 : Int32).toInt ∧ (0 : Int32).toInt ≤ 0) (tr_any p1) c_59083_i (by decide) (by decide)
      refine lv_iload_n hx hb dX2_hasWay_12 rfl (lv_at hl 2 rfl) ?_
      refine lv_aload_n hx hb dX2_hasWay_13 rfl (lv_at hl 0 rfl) ?_
      refine va_get (D := D) (ci := 2) (v := .ref n_ways) (C := RX2) (T := TX2) (N := 8) hx hb hts inlX2 hown hK hP 0 rfl rfl 4 (by decide) (hts (Cond.fieldLink RX2 21 "ChanceRings$Net" "ways" "[I") qw_318) (fun _ h9 => h9) rfl dX2_hasWay_14 ?_
      refine lv_iload_n hx hb dX2_hasWay_17 rfl (lv_at hl 1 rfl) ?_
      refine va_iald hx hb hK hP 1 0 rfl rfl (tr_in h_59081 (by decide) (by decide)) dX2_hasWay_18 ?_
      refine lv_topi (fun v_59086 v_59086_e => ?_)
      have h_v_59086 : 0 ≤ (v_59086 : Int32).toInt ∧ (v_59086 : Int32).toInt ≤ 3 := by rw [v_59086_e]; exact h_n_fways _
      refine lv_icmp_ge (tgt := 26) hx hb dX2_hasWay_19 (by decide) (fun c_59087 => ?_) (fun c_59087 => ?_)
      · skip
        refine lv_iconst (v := 0) hx hb dX2_hasWay_26 (by decide) ?_
        exact W.zret (v := 0) hx hb hr (by decide) (fun t ht hW => ⟨0, rfl, ⟨(⟨by decide, by decide⟩ : 0 ≤ (0 : Int32).toInt ∧ (0 : Int32).toInt ≤ 1), (fun h => absurd rfl h)⟩, ht⟩) (fun _ h => nomatch h) dX2_hasWay_27
      · skip
        have c_59087_i := Int32.lt_iff_toInt_lt.mp (Int32.not_le.mp c_59087)
        have h_59088 : 0 ≤ (p1 : Int32).toInt ∧ (p1 : Int32).toInt ≤ 2 := nr_lt_l h_59085 h_v_59086 c_59087_i (by decide) (by decide)
        have h_59089 : 1 ≤ (v_59086 : Int32).toInt ∧ (v_59086 : Int32).toInt ≤ 3 := nr_lt_r h_59085 h_v_59086 c_59087_i (by decide) (by decide)
        refine lv_iconst (v := 1) hx hb dX2_hasWay_22 (by decide) ?_
        refine lv_goto (tgt := 27) hx hb dX2_hasWay_23 (by decide) ?_
        exact W.zret (v := 1) hx hb hr (by decide) (fun t ht hW => ⟨1, rfl, ⟨(⟨by decide, by decide⟩ : 0 ≤ (1 : Int32).toInt ∧ (1 : Int32).toInt ≤ 1), (fun _ => (tr_w h_59081 (by decide) (by decide)))⟩, ht⟩) (fun _ h => nomatch h) dX2_hasWay_27
set_option maxHeartbeats 4000000 in
set_option maxRecDepth 100000 in
theorem c_X2_isChooser (l : Launch) (D : va_G) (g : Nat → ClassId) (n : Nat) (p0 : Int32) (n_nodes : Int32) (n_kind : Nat) (n_pay : Nat) (n_name : Nat) (n_ways : Nat) (n_held : Nat) (n_targets : Nat) (n_weights : Nat) (n_fkind : Nat → Int32) (h_n_nodes : 0 ≤ (n_nodes : Int32).toInt ∧ (n_nodes : Int32).toInt ≤ 12) (h_n_fkind : ∀ j : Nat, 0 ≤ (n_fkind j).toInt ∧ (n_fkind j).toInt ≤ 3) : Met l yX2_isChooser (.code yX2_isChooser cX2_isChooser 2 (some .boolean) :: wsL_law) ({ frames := 1, cells := 0, slots := 0, locals := 21 }) (va_Pc [.ref n, .int p0] (fun U => va_P D vwCl [(n, .inr (2, [.int n_nodes, .ref n_kind, .ref n_pay, .ref n_name, .ref n_ways, .ref n_held, .ref n_targets, .ref n_weights])), (n_kind, .inl (g 0, 12, .inl n_fkind))] U.heap ∧ va_K D vwCl (TY g) U)) (vp_Si (fun r => (0 ≤ (r : Int32).toInt ∧ (r : Int32).toInt ≤ 1) ∧ (¬ r = 0 → 0 ≤ (p0 : Int32).toInt ∧ (p0 : Int32).toInt ≤ 11))) 0 0 (fun _ => False) := by
  refine Met.ofW (cc := cX2_isChooser) (maxL := 2) (ret := (some .boolean)) (by decide) rfl ?_
  intro p e s m args below meth c s₁ B hml hv
  obtain ⟨ha, hP, hK⟩ := hv
  have hx := B.exec
  have hb := B.bytes
  have hr := B.returns
  have hts0 := atoms_spec (ws := (.code yX2_isChooser cX2_isChooser 2 (some .boolean) :: wsL_law)) B.pre
  have hts : ∀ w ∈ wsL_law, w.before args s = true := fun w h => hts0 w (List.mem_cons_of_mem _ h)
  have hown : s.vm.findClass RX2 = some m.cls := findClass_of_methodNamed B.named
  have hlocks := B.notSynchronized
  have hP : va_P D vwCl [(n, .inr (2, [.int n_nodes, .ref n_kind, .ref n_pay, .ref n_name, .ref n_ways, .ref n_held, .ref n_targets, .ref n_weights])), (n_kind, .inl (g 0, 12, .inl n_fkind))] s.heap := hP
  refine W.eq (g2 := entryFrame m ([.ref n, .int p0] : List Value).toArray 2) (by rw [ha]) ?_
  have hl := lv_entry ([.ref n, .int p0]) (n := 2) (Nat.le_of_ble_eq_true rfl)
  rw [lg_entry_eq]
  generalize (lg_sl ([.ref n, .int p0]) ++ List.replicate (2 - (lg_sl ([.ref n, .int p0])).length) Slot.unset).toArray = ls at hl ⊢
  have hl : lv_has ls 2 [(0, .ref n), (1, .int p0)] := hl
  refine lv_aload_n hx hb dX2_isChooser_0 rfl (lv_at hl 0 rfl) ?_
  refine lv_iload_n hx hb dX2_isChooser_1 rfl (lv_at hl 1 rfl) ?_
  have hPc := hP.sub (ws' := [(n, .inr (2, [.int n_nodes, .ref n_kind, .ref n_pay, .ref n_name, .ref n_ways, .ref n_held, .ref n_targets, .ref n_weights]))]) [0] rfl
  refine vp_callSi (va_Run.run (va_runV (As := [.int p0]) (rest := []) ⟨hx, hb, hml, hown, hts⟩ (c_X2_has l D g n p0 n_nodes n_kind n_pay n_name n_ways n_held n_targets n_weights (tr_w h_n_nodes (by decide) (by decide))) (cwV 1 hts (tz_gV qw_328 qw_329 qw_330 qw_322 qw_331) rfl rfl rfl (by decide +kernel) ⟨Nat.le_of_ble_eq_true rfl, Nat.le_of_ble_eq_true rfl⟩) ⟨tz_blS, va_recv hK hPc (ci := 2) (q0 := 0) rfl rfl, tz_preS hPc hK⟩ rfl rfl hl.1 rfl (lv_room (Nat.le_of_ble_eq_true rfl)) dX2_isChooser_2 ⟨Nat.le_of_ble_eq_true rfl, Nat.le_of_ble_eq_true rfl⟩)) (fun r_59090 hw => ?_)
  have hw_59091 : 0 ≤ (r_59090 : Int32).toInt ∧ (r_59090 : Int32).toInt ≤ 1 := hw.1
  have hw_59091_m : ¬ r_59090 = 0 → 0 ≤ (p0 : Int32).toInt ∧ (p0 : Int32).toInt ≤ 11 := hw.2
  refine lv_if_eq (tgt := 32) hx hb dX2_isChooser_5 (by decide) (fun c_59092 => ?_) (fun c_59092 => ?_)
  · skip
    have c_59092_i : (r_59090 : Int32).toInt = (0 : Int32).toInt := congrArg Int32.toInt c_59092
    have h_59093 : 0 ≤ (r_59090 : Int32).toInt ∧ (r_59090 : Int32).toInt ≤ 0 := nr_eq_l hw_59091 (⟨by decide, by decide⟩ : 0 ≤ (0 : Int32).toInt ∧ (0 : Int32).toInt ≤ 0) c_59092_i (by decide) (by decide)
    refine lv_iconst (v := 0) hx hb dX2_isChooser_32 (by decide) ?_
    exact W.zret (v := 0) hx hb hr (by decide) (fun t ht hW => ⟨0, rfl, ⟨(⟨by decide, by decide⟩ : 0 ≤ (0 : Int32).toInt ∧ (0 : Int32).toInt ≤ 1), (fun h => absurd rfl h)⟩, ht⟩) (fun _ h => nomatch h) dX2_isChooser_33
  · skip
    have h_59094 := hw_59091_m c_59092
    have c_59092_i : ¬ (r_59090 : Int32).toInt = (0 : Int32).toInt := (fun q => c_59092 (Int32.toInt_inj.mp q))
    have h_59095 : 1 ≤ (r_59090 : Int32).toInt ∧ (r_59090 : Int32).toInt ≤ 1 := nr_ne_l hw_59091 (⟨by decide, by decide⟩ : 0 ≤ (0 : Int32).toInt ∧ (0 : Int32).toInt ≤ 0) c_59092_i (by decide) (by decide)
    refine lv_aload_n hx hb dX2_isChooser_8 rfl (lv_at hl 0 rfl) ?_
    refine va_get (D := D) (ci := 2) (v := .ref n_kind) (C := RX2) (T := TX2) (N := 8) hx hb hts inlX2 hown hK hP 0 rfl rfl 1 (by decide) (hts (Cond.fieldLink RX2 9 "ChanceRings$Net" "kind" "[I") qw_316) (fun _ h9 => h9) rfl dX2_isChooser_9 ?_
    refine lv_iload_n hx hb dX2_isChooser_12 rfl (lv_at hl 1 rfl) ?_
    refine va_iald hx hb hK hP 1 0 rfl rfl (tr_in h_59094 (by decide) (by decide)) dX2_isChooser_13 ?_
    refine lv_topi (fun v_59096 v_59096_e => ?_)
    have h_v_59096 : 0 ≤ (v_59096 : Int32).toInt ∧ (v_59096 : Int32).toInt ≤ 3 := by rw [v_59096_e]; exact h_n_fkind _
    refine lv_iconst (v := 1) hx hb dX2_isChooser_14 (by decide) ?_
    refine lv_icmp_eq (tgt := 28) hx hb dX2_isChooser_15 (by decide) (fun c_59097 => ?_) (fun c_59097 => ?_)
    · skip
      have c_59097_i : (v_59096 : Int32).toInt = (1 : Int32).toInt := congrArg Int32.toInt c_59097
      have h_59098 : 1 ≤ (v_59096 : Int32).toInt ∧ (v_59096 : Int32).toInt ≤ 1 := nr_eq_l h_v_59096 (⟨by decide, by decide⟩ : 1 ≤ (1 : Int32).toInt ∧ (1 : Int32).toInt ≤ 1) c_59097_i (by decide) (by decide)
      refine lv_iconst (v := 1) hx hb dX2_isChooser_28 (by decide) ?_
      refine lv_goto (tgt := 33) hx hb dX2_isChooser_29 (by decide) ?_
      exact W.zret (v := 1) hx hb hr (by decide) (fun t ht hW => ⟨1, rfl, ⟨(⟨by decide, by decide⟩ : 0 ≤ (1 : Int32).toInt ∧ (1 : Int32).toInt ≤ 1), (fun _ => (tr_w h_59094 (by decide) (by decide)))⟩, ht⟩) (fun _ h => nomatch h) dX2_isChooser_33
    · skip
      refine lv_aload_n hx hb dX2_isChooser_18 rfl (lv_at hl 0 rfl) ?_
      refine va_get (D := D) (ci := 2) (v := .ref n_kind) (C := RX2) (T := TX2) (N := 8) hx hb hts inlX2 hown hK hP 0 rfl rfl 1 (by decide) (hts (Cond.fieldLink RX2 9 "ChanceRings$Net" "kind" "[I") qw_316) (fun _ h9 => h9) rfl dX2_isChooser_19 ?_
      refine lv_iload_n hx hb dX2_isChooser_22 rfl (lv_at hl 1 rfl) ?_
      refine va_iald hx hb hK hP 1 0 rfl rfl (tr_in h_59094 (by decide) (by decide)) dX2_isChooser_23 ?_
      refine tz_i (y := v_59096) v_59096_e.symm ?_
      refine lv_iconst (v := 2) hx hb dX2_isChooser_24 (by decide) ?_
      refine lv_icmp_ne (tgt := 32) hx hb dX2_isChooser_25 (by decide) (fun c_59099 => ?_) (fun c_59099 => ?_)
      · skip
        refine lv_iconst (v := 0) hx hb dX2_isChooser_32 (by decide) ?_
        exact W.zret (v := 0) hx hb hr (by decide) (fun t ht hW => ⟨0, rfl, ⟨(⟨by decide, by decide⟩ : 0 ≤ (0 : Int32).toInt ∧ (0 : Int32).toInt ≤ 1), (fun h => absurd rfl h)⟩, ht⟩) (fun _ h => nomatch h) dX2_isChooser_33
      · skip
        have c_59099_i : (v_59096 : Int32).toInt = (2 : Int32).toInt := congrArg Int32.toInt c_59099
        have h_59100 : 2 ≤ (v_59096 : Int32).toInt ∧ (v_59096 : Int32).toInt ≤ 2 := nr_eq_l h_v_59096 (⟨by decide, by decide⟩ : 2 ≤ (2 : Int32).toInt ∧ (2 : Int32).toInt ≤ 2) c_59099_i (by decide) (by decide)
        refine lv_iconst (v := 1) hx hb dX2_isChooser_28 (by decide) ?_
        refine lv_goto (tgt := 33) hx hb dX2_isChooser_29 (by decide) ?_
        exact W.zret (v := 1) hx hb hr (by decide) (fun t ht hW => ⟨1, rfl, ⟨(⟨by decide, by decide⟩ : 0 ≤ (1 : Int32).toInt ∧ (1 : Int32).toInt ≤ 1), (fun _ => (tr_w h_59094 (by decide) (by decide)))⟩, ht⟩) (fun _ h => nomatch h) dX2_isChooser_33
set_option maxHeartbeats 4000000 in
set_option maxRecDepth 100000 in
theorem c_X2_weight (l : Launch) (D : va_G) (g : Nat → ClassId) (n : Nat) (p0 : Int32) (p1 : Int32) (n_nodes : Int32) (n_kind : Nat) (n_pay : Nat) (n_name : Nat) (n_ways : Nat) (n_held : Nat) (n_targets : Nat) (n_weights : Nat) (n_fweights : Nat → Int32) (h_p0 : 0 ≤ (p0 : Int32).toInt ∧ (p0 : Int32).toInt ≤ 11) (h_p1 : 0 ≤ (p1 : Int32).toInt ∧ (p1 : Int32).toInt ≤ 2) (h_n_nodes : 0 ≤ (n_nodes : Int32).toInt ∧ (n_nodes : Int32).toInt ≤ 12) : Met l yX2_weight (.code yX2_weight cX2_weight 3 (some .int) :: wsL_law) ({ frames := 0, cells := 0, slots := 0, locals := 0 }) (va_Pc [.ref n, .int p0, .int p1] (fun U => va_P D vwCl [(n, .inr (2, [.int n_nodes, .ref n_kind, .ref n_pay, .ref n_name, .ref n_ways, .ref n_held, .ref n_targets, .ref n_weights])), (n_weights, .inl (g 0, 36, .inl n_fweights))] U.heap ∧ va_K D vwCl (TY g) U)) (vp_Si (fun r => True)) 0 0 (fun _ => False) := by
  refine Met.ofW (cc := cX2_weight) (maxL := 3) (ret := (some .int)) (by decide) rfl ?_
  intro p e s m args below meth c s₁ B hml hv
  obtain ⟨ha, hP, hK⟩ := hv
  have hx := B.exec
  have hb := B.bytes
  have hr := B.returns
  have hts0 := atoms_spec (ws := (.code yX2_weight cX2_weight 3 (some .int) :: wsL_law)) B.pre
  have hts : ∀ w ∈ wsL_law, w.before args s = true := fun w h => hts0 w (List.mem_cons_of_mem _ h)
  have hown : s.vm.findClass RX2 = some m.cls := findClass_of_methodNamed B.named
  have hlocks := B.notSynchronized
  have hP : va_P D vwCl [(n, .inr (2, [.int n_nodes, .ref n_kind, .ref n_pay, .ref n_name, .ref n_ways, .ref n_held, .ref n_targets, .ref n_weights])), (n_weights, .inl (g 0, 36, .inl n_fweights))] s.heap := hP
  refine W.eq (g2 := entryFrame m ([.ref n, .int p0, .int p1] : List Value).toArray 3) (by rw [ha]) ?_
  have hl := lv_entry ([.ref n, .int p0, .int p1]) (n := 3) (Nat.le_of_ble_eq_true rfl)
  rw [lg_entry_eq]
  generalize (lg_sl ([.ref n, .int p0, .int p1]) ++ List.replicate (3 - (lg_sl ([.ref n, .int p0, .int p1])).length) Slot.unset).toArray = ls at hl ⊢
  have hl : lv_has ls 3 [(0, .ref n), (1, .int p0), (2, .int p1)] := hl
  refine lv_aload_n hx hb dX2_weight_0 rfl (lv_at hl 0 rfl) ?_
  refine va_get (D := D) (ci := 2) (v := .ref n_weights) (C := RX2) (T := TX2) (N := 8) hx hb hts inlX2 hown hK hP 0 rfl rfl 7 (by decide) (hts (Cond.fieldLink RX2 30 "ChanceRings$Net" "weights" "[I") qw_332) (fun _ h9 => h9) rfl dX2_weight_1 ?_
  refine lv_iload_n hx hb dX2_weight_4 rfl (lv_at hl 1 rfl) ?_
  refine lv_iconst (v := 3) hx hb dX2_weight_5 (by decide) ?_
  refine lv_imul hx hb dX2_weight_6 ?_
  refine lv_topi (fun v_59101 v_59101_e => ?_)
  have h_v_59101 : 0 ≤ (v_59101 : Int32).toInt ∧ (v_59101 : Int32).toInt ≤ 33 := by rw [v_59101_e]; exact tr_mul h_p0 (⟨by decide, by decide⟩ : 3 ≤ (3 : Int32).toInt ∧ (3 : Int32).toInt ≤ 3) (by decide) (by decide) (by decide) (by decide)
  refine lv_iload_n hx hb dX2_weight_7 rfl (lv_at hl 2 rfl) ?_
  refine lv_iadd hx hb dX2_weight_8 ?_
  refine lv_topi (fun v_59102 v_59102_e => ?_)
  have h_v_59102 : 0 ≤ (v_59102 : Int32).toInt ∧ (v_59102 : Int32).toInt ≤ 35 := by rw [v_59102_e]; exact tr_add h_v_59101 h_p1 (by decide) (by decide) (by decide) (by decide)
  refine va_iald hx hb hK hP 1 0 rfl rfl (tr_in h_v_59102 (by decide) (by decide)) dX2_weight_9 ?_
  refine lv_topi (fun v_59103 v_59103_e => ?_)
  exact W.iret (v := v_59103) hx hb hr (fun t ht hW => ⟨v_59103, rfl, trivial, ht⟩) (fun _ h => nomatch h) dX2_weight_10
set_option maxHeartbeats 4000000 in
set_option maxRecDepth 100000 in
theorem c_X2_together (l : Launch) (D : va_G) (g : Nat → ClassId) (n : Nat) (p0 : Int32) (n_nodes : Int32) (n_kind : Nat) (n_pay : Nat) (n_name : Nat) (n_ways : Nat) (n_held : Nat) (n_targets : Nat) (n_weights : Nat) (n_fkind : Nat → Int32) (n_fways : Nat → Int32) (n_fweights : Nat → Int32) (h_p0 : 0 ≤ (p0 : Int32).toInt ∧ (p0 : Int32).toInt ≤ 11) (h_n_nodes : 0 ≤ (n_nodes : Int32).toInt ∧ (n_nodes : Int32).toInt ≤ 12) (h_n_fkind : ∀ j : Nat, 0 ≤ (n_fkind j).toInt ∧ (n_fkind j).toInt ≤ 3) (h_n_fways : ∀ j : Nat, 0 ≤ (n_fways j).toInt ∧ (n_fways j).toInt ≤ 3) : Met l yX2_together (.code yX2_together cX2_together 4 (some .int) :: wsL_law) ({ frames := 0, cells := 0, slots := 0, locals := 0 }) (va_Pc [.ref n, .int p0] (fun U => va_P D vwCl [(n, .inr (2, [.int n_nodes, .ref n_kind, .ref n_pay, .ref n_name, .ref n_ways, .ref n_held, .ref n_targets, .ref n_weights])), (n_kind, .inl (g 0, 12, .inl n_fkind)), (n_ways, .inl (g 0, 12, .inl n_fways)), (n_weights, .inl (g 0, 36, .inl n_fweights))] U.heap ∧ va_K D vwCl (TY g) U)) (vp_Si (fun r => True)) 0 0 (fun _ => False) := by
  refine Met.ofW (cc := cX2_together) (maxL := 4) (ret := (some .int)) (by decide) rfl ?_
  intro p e s m args below meth c s₁ B hml hv
  obtain ⟨ha, hP, hK⟩ := hv
  have hx := B.exec
  have hb := B.bytes
  have hr := B.returns
  have hts0 := atoms_spec (ws := (.code yX2_together cX2_together 4 (some .int) :: wsL_law)) B.pre
  have hts : ∀ w ∈ wsL_law, w.before args s = true := fun w h => hts0 w (List.mem_cons_of_mem _ h)
  have hown : s.vm.findClass RX2 = some m.cls := findClass_of_methodNamed B.named
  have hlocks := B.notSynchronized
  have hP : va_P D vwCl [(n, .inr (2, [.int n_nodes, .ref n_kind, .ref n_pay, .ref n_name, .ref n_ways, .ref n_held, .ref n_targets, .ref n_weights])), (n_kind, .inl (g 0, 12, .inl n_fkind)), (n_ways, .inl (g 0, 12, .inl n_fways)), (n_weights, .inl (g 0, 36, .inl n_fweights))] s.heap := hP
  refine W.eq (g2 := entryFrame m ([.ref n, .int p0] : List Value).toArray 4) (by rw [ha]) ?_
  have hl := lv_entry ([.ref n, .int p0]) (n := 4) (Nat.le_of_ble_eq_true rfl)
  rw [lg_entry_eq]
  generalize (lg_sl ([.ref n, .int p0]) ++ List.replicate (4 - (lg_sl ([.ref n, .int p0])).length) Slot.unset).toArray = ls at hl ⊢
  have hl : lv_has ls 4 [(0, .ref n), (1, .int p0)] := hl
  refine lv_aload_n hx hb dX2_together_0 rfl (lv_at hl 0 rfl) ?_
  refine va_get (D := D) (ci := 2) (v := .ref n_kind) (C := RX2) (T := TX2) (N := 8) hx hb hts inlX2 hown hK hP 0 rfl rfl 1 (by decide) (hts (Cond.fieldLink RX2 9 "ChanceRings$Net" "kind" "[I") qw_316) (fun _ h9 => h9) rfl dX2_together_1 ?_
  refine lv_iload_n hx hb dX2_together_4 rfl (lv_at hl 1 rfl) ?_
  refine va_iald hx hb hK hP 1 0 rfl rfl (tr_in h_p0 (by decide) (by decide)) dX2_together_5 ?_
  refine lv_topi (fun v_59104 v_59104_e => ?_)
  have h_v_59104 : 0 ≤ (v_59104 : Int32).toInt ∧ (v_59104 : Int32).toInt ≤ 3 := by rw [v_59104_e]; exact h_n_fkind _
  refine lv_iconst (v := 3) hx hb dX2_together_6 (by decide) ?_
  refine lv_icmp_eq (tgt := 12) hx hb dX2_together_7 (by decide) (fun c_59105 => ?_) (fun c_59105 => ?_)
  · skip
    have c_59105_i : (v_59104 : Int32).toInt = (3 : Int32).toInt := congrArg Int32.toInt c_59105
    have h_59106 : 3 ≤ (v_59104 : Int32).toInt ∧ (v_59104 : Int32).toInt ≤ 3 := nr_eq_l h_v_59104 (⟨by decide, by decide⟩ : 3 ≤ (3 : Int32).toInt ∧ (3 : Int32).toInt ≤ 3) c_59105_i (by decide) (by decide)
    refine lv_iconst (v := 0) hx hb dX2_together_12 (by decide) ?_
    refine lv_istore_n (lv' := [(2, .int 0), (0, .ref n), (1, .int p0)]) hx hb dX2_together_13 rfl hl (by decide) rfl (fun ls hl => ?_)
    refine lv_iconst (v := 0) hx hb dX2_together_14 (by decide) ?_
    refine lv_istore_n (lv' := [(3, .int 0), (2, .int 0), (0, .ref n), (1, .int p0)]) hx hb dX2_together_15 rfl hl (by decide) rfl (fun ls hl => ?_)
    have lp_59151 : ∀ (n_59151 : Nat) (x_59149 : Int32) (x_59150 : Int32) (ls : Array Slot), (0 ≤ (x_59149 : Int32).toInt ∧ (x_59149 : Int32).toInt ≤ 3) → (3 - x_59149.toInt < (n_59151 : Int)) → lv_has ls 4 [(3, .int x_59149), (2, .int x_59150), (0, .ref n), (1, .int p0)] → W p l e (headSpec (.code yX2_together cX2_together 4 (some .int) :: wsL_law) ({ frames := 0, cells := 0, slots := 0, locals := 0 })).room s m args below meth c s.heap [] 0 0 (MQ below (vp_Si (fun r => True)) args s 0 0 (fun _ => False)) (F0 m 16 ls []) := by
      intro n_59151
      induction n_59151 with
      | zero =>
        intro x_59149 x_59150 ls h_x_59149 hm_59151 hl
        exfalso; omega
      | succ n_59151 ih_59151 =>
        intro x_59149 x_59150 ls h_x_59149 hm_59151 hl
        refine lv_iload_n hx hb dX2_together_16 rfl (lv_at hl 0 rfl) ?_
        refine lv_aload_n hx hb dX2_together_17 rfl (lv_at hl 2 rfl) ?_
        refine va_get (D := D) (ci := 2) (v := .ref n_ways) (C := RX2) (T := TX2) (N := 8) hx hb hts inlX2 hown hK hP 0 rfl rfl 4 (by decide) (hts (Cond.fieldLink RX2 21 "ChanceRings$Net" "ways" "[I") qw_318) (fun _ h9 => h9) rfl dX2_together_18 ?_
        refine lv_iload_n hx hb dX2_together_21 rfl (lv_at hl 3 rfl) ?_
        refine va_iald hx hb hK hP 2 0 rfl rfl (tr_in h_p0 (by decide) (by decide)) dX2_together_22 ?_
        refine lv_topi (fun v_59152 v_59152_e => ?_)
        have h_v_59152 : 0 ≤ (v_59152 : Int32).toInt ∧ (v_59152 : Int32).toInt ≤ 3 := by rw [v_59152_e]; exact h_n_fways _
        refine lv_icmp_ge (tgt := 45) hx hb dX2_together_23 (by decide) (fun c_59153 => ?_) (fun c_59153 => ?_)
        · skip
          refine lv_iload_n hx hb dX2_together_45 rfl (lv_at hl 1 rfl) ?_
          exact W.iret (v := x_59150) hx hb hr (fun t ht hW => ⟨x_59150, rfl, trivial, ht⟩) (fun _ h => nomatch h) dX2_together_46
        · skip
          have c_59153_i := Int32.lt_iff_toInt_lt.mp (Int32.not_le.mp c_59153)
          have h_59154 : 0 ≤ (x_59149 : Int32).toInt ∧ (x_59149 : Int32).toInt ≤ 2 := nr_lt_l h_x_59149 h_v_59152 c_59153_i (by decide) (by decide)
          have h_59155 : 1 ≤ (v_59152 : Int32).toInt ∧ (v_59152 : Int32).toInt ≤ 3 := nr_lt_r h_x_59149 h_v_59152 c_59153_i (by decide) (by decide)
          refine lv_iload_n hx hb dX2_together_26 rfl (lv_at hl 1 rfl) ?_
          refine lv_aload_n hx hb dX2_together_27 rfl (lv_at hl 2 rfl) ?_
          refine va_get (D := D) (ci := 2) (v := .ref n_weights) (C := RX2) (T := TX2) (N := 8) hx hb hts inlX2 hown hK hP 0 rfl rfl 7 (by decide) (hts (Cond.fieldLink RX2 30 "ChanceRings$Net" "weights" "[I") qw_332) (fun _ h9 => h9) rfl dX2_together_28 ?_
          refine lv_iload_n hx hb dX2_together_31 rfl (lv_at hl 3 rfl) ?_
          refine lv_iconst (v := 3) hx hb dX2_together_32 (by decide) ?_
          refine lv_imul hx hb dX2_together_33 ?_
          refine lv_topi (fun v_59156 v_59156_e => ?_)
          have h_v_59156 : 0 ≤ (v_59156 : Int32).toInt ∧ (v_59156 : Int32).toInt ≤ 33 := by rw [v_59156_e]; exact tr_mul h_p0 (⟨by decide, by decide⟩ : 3 ≤ (3 : Int32).toInt ∧ (3 : Int32).toInt ≤ 3) (by decide) (by decide) (by decide) (by decide)
          refine lv_iload_n hx hb dX2_together_34 rfl (lv_at hl 0 rfl) ?_
          refine lv_iadd hx hb dX2_together_35 ?_
          refine lv_topi (fun v_59157 v_59157_e => ?_)
          have h_v_59157 : 0 ≤ (v_59157 : Int32).toInt ∧ (v_59157 : Int32).toInt ≤ 35 := by rw [v_59157_e]; exact tr_add h_v_59156 h_59154 (by decide) (by decide) (by decide) (by decide)
          refine va_iald hx hb hK hP 3 0 rfl rfl (tr_in h_v_59157 (by decide) (by decide)) dX2_together_36 ?_
          refine lv_topi (fun v_59158 v_59158_e => ?_)
          refine lv_iadd hx hb dX2_together_37 ?_
          refine lv_topi (fun v_59159 v_59159_e => ?_)
          refine lv_istore_n (lv' := [(2, .int v_59159), (3, .int x_59149), (0, .ref n), (1, .int p0)]) hx hb dX2_together_38 rfl hl (by decide) rfl (fun ls hl => ?_)
          obtain ⟨v_59160, v_59160_e⟩ : ∃ y : Int32, y = x_59149 + Int32.ofInt 1 := ⟨_, rfl⟩
          have h_v_59160 : 1 ≤ (v_59160 : Int32).toInt ∧ (v_59160 : Int32).toInt ≤ 3 := by rw [v_59160_e]; exact tr_add h_59154 (⟨by decide, by decide⟩ : 1 ≤ (Int32.ofInt 1 : Int32).toInt ∧ (Int32.ofInt 1 : Int32).toInt ≤ 1) (by decide) (by decide) (by decide) (by decide)
          have q_v_59160 : v_59160.toInt = x_59149.toInt + 1 := by rw [v_59160_e]; exact tr_addE h_59154 (⟨by decide, by decide⟩ : 1 ≤ (Int32.ofInt 1 : Int32).toInt ∧ (Int32.ofInt 1 : Int32).toInt ≤ 1) (by decide) (by decide)
          refine lv_iinc (v := v_59160) (lv' := [(3, .int v_59160), (2, .int v_59159), (0, .ref n), (1, .int p0)]) hx hb dX2_together_39 hl (k := 1) rfl v_59160_e.symm (by decide) rfl (fun ls hl => ?_)
          refine lv_goto (tgt := 16) hx hb dX2_together_42 (by decide) ?_
          exact ih_59151 v_59160 v_59159 ls (tr_w h_v_59160 (by decide) (by decide)) (by (first | (clear h_p0 h_n_nodes h_v_59104 c_59105_i h_59106 h_v_59156 h_v_59157; omega) | omega)) (lv_sub hl [0, 1, 2, 3] rfl)
    exact lp_59151 4 0 0 ls (⟨by decide, by decide⟩ : 0 ≤ (0 : Int32).toInt ∧ (0 : Int32).toInt ≤ 3) (by decide) (lv_sub hl [0, 1, 2, 3] rfl)
  · skip
    have c_59105_i : ¬ (v_59104 : Int32).toInt = (3 : Int32).toInt := (fun q => c_59105 (Int32.toInt_inj.mp q))
    have h_59107 : 0 ≤ (v_59104 : Int32).toInt ∧ (v_59104 : Int32).toInt ≤ 2 := nr_ne_l h_v_59104 (⟨by decide, by decide⟩ : 3 ≤ (3 : Int32).toInt ∧ (3 : Int32).toInt ≤ 3) c_59105_i (by decide) (by decide)
    refine lv_iconst (v := 1) hx hb dX2_together_10 (by decide) ?_
    exact W.iret (v := 1) hx hb hr (fun t ht hW => ⟨1, rfl, trivial, ht⟩) (fun _ h => nomatch h) dX2_together_11
set_option maxHeartbeats 4000000 in
set_option maxRecDepth 100000 in
theorem c_X2_countWays (l : Launch) (D : va_G) (g : Nat → ClassId) (n : Nat) (n_nodes : Int32) (n_kind : Nat) (n_pay : Nat) (n_name : Nat) (n_ways : Nat) (n_held : Nat) (n_targets : Nat) (n_weights : Nat) (n_fways : Nat → Int32) (h_n_nodes : 0 ≤ (n_nodes : Int32).toInt ∧ (n_nodes : Int32).toInt ≤ 12) (h_n_fways : ∀ j : Nat, 0 ≤ (n_fways j).toInt ∧ (n_fways j).toInt ≤ 3) : Met l yX2_countWays (.code yX2_countWays cX2_countWays 3 (some .int) :: wsL_law) ({ frames := 0, cells := 0, slots := 0, locals := 0 }) (va_Pc [.ref n] (fun U => va_P D vwCl [(n, .inr (2, [.int n_nodes, .ref n_kind, .ref n_pay, .ref n_name, .ref n_ways, .ref n_held, .ref n_targets, .ref n_weights])), (n_ways, .inl (g 0, 12, .inl n_fways))] U.heap ∧ va_K D vwCl (TY g) U)) (vp_Si (fun r => True)) 0 0 (fun _ => False) := by
  refine Met.ofW (cc := cX2_countWays) (maxL := 3) (ret := (some .int)) (by decide) rfl ?_
  intro p e s m args below meth c s₁ B hml hv
  obtain ⟨ha, hP, hK⟩ := hv
  have hx := B.exec
  have hb := B.bytes
  have hr := B.returns
  have hts0 := atoms_spec (ws := (.code yX2_countWays cX2_countWays 3 (some .int) :: wsL_law)) B.pre
  have hts : ∀ w ∈ wsL_law, w.before args s = true := fun w h => hts0 w (List.mem_cons_of_mem _ h)
  have hown : s.vm.findClass RX2 = some m.cls := findClass_of_methodNamed B.named
  have hlocks := B.notSynchronized
  have hP : va_P D vwCl [(n, .inr (2, [.int n_nodes, .ref n_kind, .ref n_pay, .ref n_name, .ref n_ways, .ref n_held, .ref n_targets, .ref n_weights])), (n_ways, .inl (g 0, 12, .inl n_fways))] s.heap := hP
  refine W.eq (g2 := entryFrame m ([.ref n] : List Value).toArray 3) (by rw [ha]) ?_
  have hl := lv_entry ([.ref n]) (n := 3) (Nat.le_of_ble_eq_true rfl)
  rw [lg_entry_eq]
  generalize (lg_sl ([.ref n]) ++ List.replicate (3 - (lg_sl ([.ref n])).length) Slot.unset).toArray = ls at hl ⊢
  have hl : lv_has ls 3 [(0, .ref n)] := hl
  refine lv_iconst (v := 0) hx hb dX2_countWays_0 (by decide) ?_
  refine lv_istore_n (lv' := [(1, .int 0), (0, .ref n)]) hx hb dX2_countWays_1 rfl hl (by decide) rfl (fun ls hl => ?_)
  refine lv_iconst (v := 0) hx hb dX2_countWays_2 (by decide) ?_
  refine lv_istore_n (lv' := [(2, .int 0), (1, .int 0), (0, .ref n)]) hx hb dX2_countWays_3 rfl hl (by decide) rfl (fun ls hl => ?_)
  have lp_59264 : ∀ (n_59264 : Nat) (x_59262 : Int32) (x_59263 : Int32) (ls : Array Slot), (0 ≤ (x_59262 : Int32).toInt ∧ (x_59262 : Int32).toInt ≤ 12) → (12 - x_59262.toInt < (n_59264 : Int)) → lv_has ls 3 [(2, .int x_59262), (1, .int x_59263), (0, .ref n)] → W p l e (headSpec (.code yX2_countWays cX2_countWays 3 (some .int) :: wsL_law) ({ frames := 0, cells := 0, slots := 0, locals := 0 })).room s m args below meth c s.heap [] 0 0 (MQ below (vp_Si (fun r => True)) args s 0 0 (fun _ => False)) (F0 m 4 ls []) := by
    intro n_59264
    induction n_59264 with
    | zero =>
      intro x_59262 x_59263 ls h_x_59262 hm_59264 hl
      exfalso; omega
    | succ n_59264 ih_59264 =>
      intro x_59262 x_59263 ls h_x_59262 hm_59264 hl
      refine lv_iload_n hx hb dX2_countWays_4 rfl (lv_at hl 0 rfl) ?_
      refine lv_aload_n hx hb dX2_countWays_5 rfl (lv_at hl 2 rfl) ?_
      refine va_get (D := D) (ci := 2) (v := .int n_nodes) (C := RX2) (T := TX2) (N := 8) hx hb hts inlX2 hown hK hP 0 rfl rfl 0 (by decide) (hts (Cond.fieldLink RX2 33 "ChanceRings$Net" "nodes" "I") qw_313) (fun _ h9 => h9) rfl dX2_countWays_6 ?_
      refine lv_icmp_ge (tgt := 27) hx hb dX2_countWays_9 (by decide) (fun c_59265 => ?_) (fun c_59265 => ?_)
      · skip
        refine lv_iload_n hx hb dX2_countWays_27 rfl (lv_at hl 1 rfl) ?_
        exact W.iret (v := x_59263) hx hb hr (fun t ht hW => ⟨x_59263, rfl, trivial, ht⟩) (fun _ h => nomatch h) dX2_countWays_28
      · skip
        have c_59265_i := Int32.lt_iff_toInt_lt.mp (Int32.not_le.mp c_59265)
        have h_59266 : 0 ≤ (x_59262 : Int32).toInt ∧ (x_59262 : Int32).toInt ≤ 11 := nr_lt_l h_x_59262 h_n_nodes c_59265_i (by decide) (by decide)
        have h_59267 : 1 ≤ (n_nodes : Int32).toInt ∧ (n_nodes : Int32).toInt ≤ 12 := nr_lt_r h_x_59262 h_n_nodes c_59265_i (by decide) (by decide)
        refine lv_iload_n hx hb dX2_countWays_12 rfl (lv_at hl 1 rfl) ?_
        refine lv_aload_n hx hb dX2_countWays_13 rfl (lv_at hl 2 rfl) ?_
        refine va_get (D := D) (ci := 2) (v := .ref n_ways) (C := RX2) (T := TX2) (N := 8) hx hb hts inlX2 hown hK hP 0 rfl rfl 4 (by decide) (hts (Cond.fieldLink RX2 21 "ChanceRings$Net" "ways" "[I") qw_318) (fun _ h9 => h9) rfl dX2_countWays_14 ?_
        refine lv_iload_n hx hb dX2_countWays_17 rfl (lv_at hl 0 rfl) ?_
        refine va_iald hx hb hK hP 1 0 rfl rfl (tr_in h_59266 (by decide) (by decide)) dX2_countWays_18 ?_
        refine lv_topi (fun v_59268 v_59268_e => ?_)
        have h_v_59268 : 0 ≤ (v_59268 : Int32).toInt ∧ (v_59268 : Int32).toInt ≤ 3 := by rw [v_59268_e]; exact h_n_fways _
        refine lv_iadd hx hb dX2_countWays_19 ?_
        refine lv_topi (fun v_59269 v_59269_e => ?_)
        refine lv_istore_n (lv' := [(1, .int v_59269), (2, .int x_59262), (0, .ref n)]) hx hb dX2_countWays_20 rfl hl (by decide) rfl (fun ls hl => ?_)
        obtain ⟨v_59270, v_59270_e⟩ : ∃ y : Int32, y = x_59262 + Int32.ofInt 1 := ⟨_, rfl⟩
        have h_v_59270 : 1 ≤ (v_59270 : Int32).toInt ∧ (v_59270 : Int32).toInt ≤ 12 := by rw [v_59270_e]; exact tr_add h_59266 (⟨by decide, by decide⟩ : 1 ≤ (Int32.ofInt 1 : Int32).toInt ∧ (Int32.ofInt 1 : Int32).toInt ≤ 1) (by decide) (by decide) (by decide) (by decide)
        have q_v_59270 : v_59270.toInt = x_59262.toInt + 1 := by rw [v_59270_e]; exact tr_addE h_59266 (⟨by decide, by decide⟩ : 1 ≤ (Int32.ofInt 1 : Int32).toInt ∧ (Int32.ofInt 1 : Int32).toInt ≤ 1) (by decide) (by decide)
        refine lv_iinc (v := v_59270) (lv' := [(2, .int v_59270), (1, .int v_59269), (0, .ref n)]) hx hb dX2_countWays_21 hl (k := 1) rfl v_59270_e.symm (by decide) rfl (fun ls hl => ?_)
        refine lv_goto (tgt := 4) hx hb dX2_countWays_24 (by decide) ?_
        exact ih_59264 v_59270 v_59269 ls (tr_w h_v_59270 (by decide) (by decide)) (by omega) (lv_sub hl [0, 1, 2] rfl)
  exact lp_59264 13 0 0 ls (⟨by decide, by decide⟩ : 0 ≤ (0 : Int32).toInt ∧ (0 : Int32).toInt ≤ 12) (by decide) (lv_sub hl [0, 1, 2] rfl)
set_option maxHeartbeats 4000000 in
set_option maxRecDepth 100000 in
theorem c_X2_countTakable (l : Launch) (D : va_G) (g : Nat → ClassId) (n : Nat) (p0 : Int32) (n_nodes : Int32) (n_kind : Nat) (n_pay : Nat) (n_name : Nat) (n_ways : Nat) (n_held : Nat) (n_targets : Nat) (n_weights : Nat) (n_fways : Nat → Int32) (n_fheld : Nat → Int32) (h_p0 : 0 ≤ (p0 : Int32).toInt ∧ (p0 : Int32).toInt ≤ 11) (h_n_nodes : 0 ≤ (n_nodes : Int32).toInt ∧ (n_nodes : Int32).toInt ≤ 12) (h_n_fways : ∀ j : Nat, 0 ≤ (n_fways j).toInt ∧ (n_fways j).toInt ≤ 3) (h_n_fheld : ∀ j : Nat, (-1) ≤ (n_fheld j).toInt ∧ (n_fheld j).toInt ≤ 2) : Met l yX2_countTakable (.code yX2_countTakable cX2_countTakable 2 (some .int) :: wsL_law) ({ frames := 0, cells := 0, slots := 0, locals := 0 }) (va_Pc [.ref n, .int p0] (fun U => va_P D vwCl [(n, .inr (2, [.int n_nodes, .ref n_kind, .ref n_pay, .ref n_name, .ref n_ways, .ref n_held, .ref n_targets, .ref n_weights])), (n_ways, .inl (g 0, 12, .inl n_fways)), (n_held, .inl (g 0, 12, .inl n_fheld))] U.heap ∧ va_K D vwCl (TY g) U)) (vp_Si (fun r => True)) 0 0 (fun _ => False) := by
  refine Met.ofW (cc := cX2_countTakable) (maxL := 2) (ret := (some .int)) (by decide) rfl ?_
  intro p e s m args below meth c s₁ B hml hv
  obtain ⟨ha, hP, hK⟩ := hv
  have hx := B.exec
  have hb := B.bytes
  have hr := B.returns
  have hts0 := atoms_spec (ws := (.code yX2_countTakable cX2_countTakable 2 (some .int) :: wsL_law)) B.pre
  have hts : ∀ w ∈ wsL_law, w.before args s = true := fun w h => hts0 w (List.mem_cons_of_mem _ h)
  have hown : s.vm.findClass RX2 = some m.cls := findClass_of_methodNamed B.named
  have hlocks := B.notSynchronized
  have hP : va_P D vwCl [(n, .inr (2, [.int n_nodes, .ref n_kind, .ref n_pay, .ref n_name, .ref n_ways, .ref n_held, .ref n_targets, .ref n_weights])), (n_ways, .inl (g 0, 12, .inl n_fways)), (n_held, .inl (g 0, 12, .inl n_fheld))] s.heap := hP
  refine W.eq (g2 := entryFrame m ([.ref n, .int p0] : List Value).toArray 2) (by rw [ha]) ?_
  have hl := lv_entry ([.ref n, .int p0]) (n := 2) (Nat.le_of_ble_eq_true rfl)
  rw [lg_entry_eq]
  generalize (lg_sl ([.ref n, .int p0]) ++ List.replicate (2 - (lg_sl ([.ref n, .int p0])).length) Slot.unset).toArray = ls at hl ⊢
  have hl : lv_has ls 2 [(0, .ref n), (1, .int p0)] := hl
  refine lv_aload_n hx hb dX2_countTakable_0 rfl (lv_at hl 0 rfl) ?_
  refine va_get (D := D) (ci := 2) (v := .ref n_held) (C := RX2) (T := TX2) (N := 8) hx hb hts inlX2 hown hK hP 0 rfl rfl 5 (by decide) (hts (Cond.fieldLink RX2 24 "ChanceRings$Net" "held" "[I") qw_314) (fun _ h9 => h9) rfl dX2_countTakable_1 ?_
  refine lv_iload_n hx hb dX2_countTakable_4 rfl (lv_at hl 1 rfl) ?_
  refine va_iald hx hb hK hP 2 0 rfl rfl (tr_in h_p0 (by decide) (by decide)) dX2_countTakable_5 ?_
  refine lv_topi (fun v_59271 v_59271_e => ?_)
  have h_v_59271 : (-1) ≤ (v_59271 : Int32).toInt ∧ (v_59271 : Int32).toInt ≤ 2 := by rw [v_59271_e]; exact h_n_fheld _
  refine lv_iconst (v := (-1)) hx hb dX2_countTakable_6 (by decide) ?_
  refine lv_icmp_ne (tgt := 19) hx hb dX2_countTakable_7 (by decide) (fun c_59272 => ?_) (fun c_59272 => ?_)
  · skip
    have c_59272_i : ¬ (v_59271 : Int32).toInt = ((-1) : Int32).toInt := (fun q => c_59272 (Int32.toInt_inj.mp q))
    have h_59273 : 0 ≤ (v_59271 : Int32).toInt ∧ (v_59271 : Int32).toInt ≤ 2 := nr_ne_l h_v_59271 (⟨by decide, by decide⟩ : (-1) ≤ ((-1) : Int32).toInt ∧ ((-1) : Int32).toInt ≤ (-1)) c_59272_i (by decide) (by decide)
    refine lv_iconst (v := 1) hx hb dX2_countTakable_19 (by decide) ?_
    exact W.iret (v := 1) hx hb hr (fun t ht hW => ⟨1, rfl, trivial, ht⟩) (fun _ h => nomatch h) dX2_countTakable_20
  · skip
    have c_59272_i : (v_59271 : Int32).toInt = ((-1) : Int32).toInt := congrArg Int32.toInt c_59272
    have h_59274 : (-1) ≤ (v_59271 : Int32).toInt ∧ (v_59271 : Int32).toInt ≤ (-1) := nr_eq_l h_v_59271 (⟨by decide, by decide⟩ : (-1) ≤ ((-1) : Int32).toInt ∧ ((-1) : Int32).toInt ≤ (-1)) c_59272_i (by decide) (by decide)
    refine lv_aload_n hx hb dX2_countTakable_10 rfl (lv_at hl 0 rfl) ?_
    refine va_get (D := D) (ci := 2) (v := .ref n_ways) (C := RX2) (T := TX2) (N := 8) hx hb hts inlX2 hown hK hP 0 rfl rfl 4 (by decide) (hts (Cond.fieldLink RX2 21 "ChanceRings$Net" "ways" "[I") qw_318) (fun _ h9 => h9) rfl dX2_countTakable_11 ?_
    refine lv_iload_n hx hb dX2_countTakable_14 rfl (lv_at hl 1 rfl) ?_
    refine va_iald hx hb hK hP 1 0 rfl rfl (tr_in h_p0 (by decide) (by decide)) dX2_countTakable_15 ?_
    refine lv_topi (fun v_59275 v_59275_e => ?_)
    have h_v_59275 : 0 ≤ (v_59275 : Int32).toInt ∧ (v_59275 : Int32).toInt ≤ 3 := by rw [v_59275_e]; exact h_n_fways _
    refine lv_goto (tgt := 20) hx hb dX2_countTakable_16 (by decide) ?_
    exact W.iret (v := v_59275) hx hb hr (fun t ht hW => ⟨v_59275, rfl, trivial, ht⟩) (fun _ h => nomatch h) dX2_countTakable_20
set_option maxHeartbeats 4000000 in
set_option maxRecDepth 100000 in
theorem c_X2_heldNodes (l : Launch) (D : va_G) (g : Nat → ClassId) (n : Nat) (n_nodes : Int32) (n_kind : Nat) (n_pay : Nat) (n_name : Nat) (n_ways : Nat) (n_held : Nat) (n_targets : Nat) (n_weights : Nat) (n_fheld : Nat → Int32) (h_n_nodes : 0 ≤ (n_nodes : Int32).toInt ∧ (n_nodes : Int32).toInt ≤ 12) (h_n_fheld : ∀ j : Nat, (-1) ≤ (n_fheld j).toInt ∧ (n_fheld j).toInt ≤ 2) : Met l yX2_heldNodes (.code yX2_heldNodes cX2_heldNodes 3 (some .int) :: wsL_law) ({ frames := 0, cells := 0, slots := 0, locals := 0 }) (va_Pc [.ref n] (fun U => va_P D vwCl [(n, .inr (2, [.int n_nodes, .ref n_kind, .ref n_pay, .ref n_name, .ref n_ways, .ref n_held, .ref n_targets, .ref n_weights])), (n_held, .inl (g 0, 12, .inl n_fheld))] U.heap ∧ va_K D vwCl (TY g) U)) (vp_Si (fun r => True)) 0 0 (fun _ => False) := by
  refine Met.ofW (cc := cX2_heldNodes) (maxL := 3) (ret := (some .int)) (by decide) rfl ?_
  intro p e s m args below meth c s₁ B hml hv
  obtain ⟨ha, hP, hK⟩ := hv
  have hx := B.exec
  have hb := B.bytes
  have hr := B.returns
  have hts0 := atoms_spec (ws := (.code yX2_heldNodes cX2_heldNodes 3 (some .int) :: wsL_law)) B.pre
  have hts : ∀ w ∈ wsL_law, w.before args s = true := fun w h => hts0 w (List.mem_cons_of_mem _ h)
  have hown : s.vm.findClass RX2 = some m.cls := findClass_of_methodNamed B.named
  have hlocks := B.notSynchronized
  have hP : va_P D vwCl [(n, .inr (2, [.int n_nodes, .ref n_kind, .ref n_pay, .ref n_name, .ref n_ways, .ref n_held, .ref n_targets, .ref n_weights])), (n_held, .inl (g 0, 12, .inl n_fheld))] s.heap := hP
  refine W.eq (g2 := entryFrame m ([.ref n] : List Value).toArray 3) (by rw [ha]) ?_
  have hl := lv_entry ([.ref n]) (n := 3) (Nat.le_of_ble_eq_true rfl)
  rw [lg_entry_eq]
  generalize (lg_sl ([.ref n]) ++ List.replicate (3 - (lg_sl ([.ref n])).length) Slot.unset).toArray = ls at hl ⊢
  have hl : lv_has ls 3 [(0, .ref n)] := hl
  refine lv_iconst (v := 0) hx hb dX2_heldNodes_0 (by decide) ?_
  refine lv_istore_n (lv' := [(1, .int 0), (0, .ref n)]) hx hb dX2_heldNodes_1 rfl hl (by decide) rfl (fun ls hl => ?_)
  refine lv_iconst (v := 0) hx hb dX2_heldNodes_2 (by decide) ?_
  refine lv_istore_n (lv' := [(2, .int 0), (1, .int 0), (0, .ref n)]) hx hb dX2_heldNodes_3 rfl hl (by decide) rfl (fun ls hl => ?_)
  have lp_59376 : ∀ (n_59376 : Nat) (x_59374 : Int32) (x_59375 : Int32) (ls : Array Slot), (0 ≤ (x_59374 : Int32).toInt ∧ (x_59374 : Int32).toInt ≤ 12) → (12 - x_59374.toInt < (n_59376 : Int)) → lv_has ls 3 [(2, .int x_59374), (1, .int x_59375), (0, .ref n)] → W p l e (headSpec (.code yX2_heldNodes cX2_heldNodes 3 (some .int) :: wsL_law) ({ frames := 0, cells := 0, slots := 0, locals := 0 })).room s m args below meth c s.heap [] 0 0 (MQ below (vp_Si (fun r => True)) args s 0 0 (fun _ => False)) (F0 m 4 ls []) := by
    intro n_59376
    induction n_59376 with
    | zero =>
      intro x_59374 x_59375 ls h_x_59374 hm_59376 hl
      exfalso; omega
    | succ n_59376 ih_59376 =>
      intro x_59374 x_59375 ls h_x_59374 hm_59376 hl
      refine lv_iload_n hx hb dX2_heldNodes_4 rfl (lv_at hl 0 rfl) ?_
      refine lv_aload_n hx hb dX2_heldNodes_5 rfl (lv_at hl 2 rfl) ?_
      refine va_get (D := D) (ci := 2) (v := .int n_nodes) (C := RX2) (T := TX2) (N := 8) hx hb hts inlX2 hown hK hP 0 rfl rfl 0 (by decide) (hts (Cond.fieldLink RX2 33 "ChanceRings$Net" "nodes" "I") qw_313) (fun _ h9 => h9) rfl dX2_heldNodes_6 ?_
      refine lv_icmp_ge (tgt := 34) hx hb dX2_heldNodes_9 (by decide) (fun c_59377 => ?_) (fun c_59377 => ?_)
      · skip
        refine lv_iload_n hx hb dX2_heldNodes_34 rfl (lv_at hl 1 rfl) ?_
        exact W.iret (v := x_59375) hx hb hr (fun t ht hW => ⟨x_59375, rfl, trivial, ht⟩) (fun _ h => nomatch h) dX2_heldNodes_35
      · skip
        have c_59377_i := Int32.lt_iff_toInt_lt.mp (Int32.not_le.mp c_59377)
        have h_59378 : 0 ≤ (x_59374 : Int32).toInt ∧ (x_59374 : Int32).toInt ≤ 11 := nr_lt_l h_x_59374 h_n_nodes c_59377_i (by decide) (by decide)
        have h_59379 : 1 ≤ (n_nodes : Int32).toInt ∧ (n_nodes : Int32).toInt ≤ 12 := nr_lt_r h_x_59374 h_n_nodes c_59377_i (by decide) (by decide)
        refine lv_aload_n hx hb dX2_heldNodes_12 rfl (lv_at hl 2 rfl) ?_
        refine va_get (D := D) (ci := 2) (v := .ref n_held) (C := RX2) (T := TX2) (N := 8) hx hb hts inlX2 hown hK hP 0 rfl rfl 5 (by decide) (hts (Cond.fieldLink RX2 24 "ChanceRings$Net" "held" "[I") qw_314) (fun _ h9 => h9) rfl dX2_heldNodes_13 ?_
        refine lv_iload_n hx hb dX2_heldNodes_16 rfl (lv_at hl 0 rfl) ?_
        refine va_iald hx hb hK hP 1 0 rfl rfl (tr_in h_59378 (by decide) (by decide)) dX2_heldNodes_17 ?_
        refine lv_topi (fun v_59380 v_59380_e => ?_)
        have h_v_59380 : (-1) ≤ (v_59380 : Int32).toInt ∧ (v_59380 : Int32).toInt ≤ 2 := by rw [v_59380_e]; exact h_n_fheld _
        refine lv_iconst (v := (-1)) hx hb dX2_heldNodes_18 (by decide) ?_
        refine lv_icmp_eq (tgt := 28) hx hb dX2_heldNodes_19 (by decide) (fun c_59381 => ?_) (fun c_59381 => ?_)
        · skip
          have c_59381_i : (v_59380 : Int32).toInt = ((-1) : Int32).toInt := congrArg Int32.toInt c_59381
          have h_59382 : (-1) ≤ (v_59380 : Int32).toInt ∧ (v_59380 : Int32).toInt ≤ (-1) := nr_eq_l h_v_59380 (⟨by decide, by decide⟩ : (-1) ≤ ((-1) : Int32).toInt ∧ ((-1) : Int32).toInt ≤ (-1)) c_59381_i (by decide) (by decide)
          obtain ⟨v_59384, v_59384_e⟩ : ∃ y : Int32, y = x_59374 + Int32.ofInt 1 := ⟨_, rfl⟩
          have h_v_59384 : 1 ≤ (v_59384 : Int32).toInt ∧ (v_59384 : Int32).toInt ≤ 12 := by rw [v_59384_e]; exact tr_add h_59378 (⟨by decide, by decide⟩ : 1 ≤ (Int32.ofInt 1 : Int32).toInt ∧ (Int32.ofInt 1 : Int32).toInt ≤ 1) (by decide) (by decide) (by decide) (by decide)
          have q_v_59384 : v_59384.toInt = x_59374.toInt + 1 := by rw [v_59384_e]; exact tr_addE h_59378 (⟨by decide, by decide⟩ : 1 ≤ (Int32.ofInt 1 : Int32).toInt ∧ (Int32.ofInt 1 : Int32).toInt ≤ 1) (by decide) (by decide)
          refine lv_iinc (v := v_59384) (lv' := [(2, .int v_59384), (1, .int x_59375), (0, .ref n)]) hx hb dX2_heldNodes_28 hl (k := 0) rfl v_59384_e.symm (by decide) rfl (fun ls hl => ?_)
          refine lv_goto (tgt := 4) hx hb dX2_heldNodes_31 (by decide) ?_
          exact ih_59376 v_59384 x_59375 ls (tr_w h_v_59384 (by decide) (by decide)) (by omega) (lv_sub hl [0, 1, 2] rfl)
        · skip
          have c_59381_i : ¬ (v_59380 : Int32).toInt = ((-1) : Int32).toInt := (fun q => c_59381 (Int32.toInt_inj.mp q))
          have h_59383 : 0 ≤ (v_59380 : Int32).toInt ∧ (v_59380 : Int32).toInt ≤ 2 := nr_ne_l h_v_59380 (⟨by decide, by decide⟩ : (-1) ≤ ((-1) : Int32).toInt ∧ ((-1) : Int32).toInt ≤ (-1)) c_59381_i (by decide) (by decide)
          refine lv_iload_n hx hb dX2_heldNodes_22 rfl (lv_at hl 1 rfl) ?_
          refine lv_iconst (v := 1) hx hb dX2_heldNodes_23 (by decide) ?_
          refine lv_iload_n hx hb dX2_heldNodes_24 rfl (lv_at hl 0 rfl) ?_
          refine lv_ishl hx hb dX2_heldNodes_25 ?_
          refine lv_topi (fun v_59385 v_59385_e => ?_)
          refine lv_ior hx hb dX2_heldNodes_26 ?_
          refine lv_topi (fun v_59386 v_59386_e => ?_)
          refine lv_istore_n (lv' := [(1, .int v_59386), (2, .int x_59374), (0, .ref n)]) hx hb dX2_heldNodes_27 rfl hl (by decide) rfl (fun ls hl => ?_)
          obtain ⟨v_59387, v_59387_e⟩ : ∃ y : Int32, y = x_59374 + Int32.ofInt 1 := ⟨_, rfl⟩
          have h_v_59387 : 1 ≤ (v_59387 : Int32).toInt ∧ (v_59387 : Int32).toInt ≤ 12 := by rw [v_59387_e]; exact tr_add h_59378 (⟨by decide, by decide⟩ : 1 ≤ (Int32.ofInt 1 : Int32).toInt ∧ (Int32.ofInt 1 : Int32).toInt ≤ 1) (by decide) (by decide) (by decide) (by decide)
          have q_v_59387 : v_59387.toInt = x_59374.toInt + 1 := by rw [v_59387_e]; exact tr_addE h_59378 (⟨by decide, by decide⟩ : 1 ≤ (Int32.ofInt 1 : Int32).toInt ∧ (Int32.ofInt 1 : Int32).toInt ≤ 1) (by decide) (by decide)
          refine lv_iinc (v := v_59387) (lv' := [(2, .int v_59387), (1, .int v_59386), (0, .ref n)]) hx hb dX2_heldNodes_28 hl (k := 1) rfl v_59387_e.symm (by decide) rfl (fun ls hl => ?_)
          refine lv_goto (tgt := 4) hx hb dX2_heldNodes_31 (by decide) ?_
          exact ih_59376 v_59387 v_59386 ls (tr_w h_v_59387 (by decide) (by decide)) (by omega) (lv_sub hl [0, 1, 2] rfl)
  exact lp_59376 13 0 0 ls (⟨by decide, by decide⟩ : 0 ≤ (0 : Int32).toInt ∧ (0 : Int32).toInt ≤ 12) (by decide) (lv_sub hl [0, 1, 2] rfl)
set_option maxHeartbeats 4000000 in
set_option maxRecDepth 100000 in
theorem c_X2_setWeight (l : Launch) (D : va_G) (g : Nat → ClassId) (sz : Nat) (n : Nat) (p0 : Int32) (p1 : Int32) (p2 : Int32) (n_nodes : Int32) (n_kind : Nat) (n_pay : Nat) (n_name : Nat) (n_ways : Nat) (n_held : Nat) (n_targets : Nat) (n_weights : Nat) (n_fweights : Nat → Int32) (h_p0 : 0 ≤ (p0 : Int32).toInt ∧ (p0 : Int32).toInt ≤ 11) (h_p1 : 0 ≤ (p1 : Int32).toInt ∧ (p1 : Int32).toInt ≤ 2) (h_n_nodes : 0 ≤ (n_nodes : Int32).toInt ∧ (n_nodes : Int32).toInt ≤ 12) : Met l yX2_setWeight (.code yX2_setWeight cX2_setWeight 4 none :: wsL_law) ({ frames := 0, cells := 0, slots := 0, locals := 0 }) (va_Pc [.ref n, .int p0, .int p1, .int p2] (fun U => U.heap.size = sz ∧ va_P D vwCl [(n, .inr (2, [.int n_nodes, .ref n_kind, .ref n_pay, .ref n_name, .ref n_ways, .ref n_held, .ref n_targets, .ref n_weights])), (n_weights, .inl (g 0, 36, .inl n_fweights))] U.heap ∧ va_K D vwCl (TY g) U ∧ va_D (fun _ => True) [(n, .inr (2, [.int n_nodes, .ref n_kind, .ref n_pay, .ref n_name, .ref n_ways, .ref n_held, .ref n_targets, .ref n_weights])), (n_weights, .inl (g 0, 36, .inl n_fweights))])) (va_Qv (fun (_ : Unit) => True) (fun _ t => ∃ n_gweights : Nat → Int32, va_P D vwCl [(n, .inr (2, [.int n_nodes, .ref n_kind, .ref n_pay, .ref n_name, .ref n_ways, .ref n_held, .ref n_targets, .ref n_weights])), (n_weights, .inl (g 0, 36, .inl n_gweights))] t.heap ∧ va_D (va_A [(n, .inr (2, [.int n_nodes, .ref n_kind, .ref n_pay, .ref n_name, .ref n_ways, .ref n_held, .ref n_targets, .ref n_weights])), (n_weights, .inl (g 0, 36, .inl n_fweights))] sz) [(n, .inr (2, [.int n_nodes, .ref n_kind, .ref n_pay, .ref n_name, .ref n_ways, .ref n_held, .ref n_targets, .ref n_weights])), (n_weights, .inl (g 0, 36, .inl n_gweights))]) (va_A [(n, .inr (2, [.int n_nodes, .ref n_kind, .ref n_pay, .ref n_name, .ref n_ways, .ref n_held, .ref n_targets, .ref n_weights])), (n_weights, .inl (g 0, 36, .inl n_fweights))] sz)) 0 0 (va_A [(n, .inr (2, [.int n_nodes, .ref n_kind, .ref n_pay, .ref n_name, .ref n_ways, .ref n_held, .ref n_targets, .ref n_weights])), (n_weights, .inl (g 0, 36, .inl n_fweights))] sz) := by
  refine Met.ofW (cc := cX2_setWeight) (maxL := 4) (ret := none) (by decide) rfl ?_
  intro p e s m args below meth c s₁ B hml hv
  obtain ⟨ha, hsz, hP, hK, hD0⟩ := hv
  have hx := B.exec
  have hb := B.bytes
  have hr := B.returns
  have hts0 := atoms_spec (ws := (.code yX2_setWeight cX2_setWeight 4 none :: wsL_law)) B.pre
  have hts : ∀ w ∈ wsL_law, w.before args s = true := fun w h => hts0 w (List.mem_cons_of_mem _ h)
  have hown : s.vm.findClass RX2 = some m.cls := findClass_of_methodNamed B.named
  have hlocks := B.notSynchronized
  subst hsz
  have hD := hD0.self (sz := s.heap.size)
  generalize hAe : va_A [(n, .inr (2, [.int n_nodes, .ref n_kind, .ref n_pay, .ref n_name, .ref n_ways, .ref n_held, .ref n_targets, .ref n_weights])), (n_weights, .inl (g 0, 36, .inl n_fweights))] s.heap.size = A at hD ⊢
  have hA : ∀ q : Nat, s.heap.size ≤ q → A q := fun q h => by rw [← hAe]; exact Or.inr h
  have hS : va_S A s.heap s.heap [] := va_S.rf
  have hP : va_P D vwCl [(n, .inr (2, [.int n_nodes, .ref n_kind, .ref n_pay, .ref n_name, .ref n_ways, .ref n_held, .ref n_targets, .ref n_weights])), (n_weights, .inl (g 0, 36, .inl n_fweights))] s.heap := hP
  refine W.eq (g2 := entryFrame m ([.ref n, .int p0, .int p1, .int p2] : List Value).toArray 4) (by rw [ha]) ?_
  have hl := lv_entry ([.ref n, .int p0, .int p1, .int p2]) (n := 4) (Nat.le_of_ble_eq_true rfl)
  rw [lg_entry_eq]
  generalize (lg_sl ([.ref n, .int p0, .int p1, .int p2]) ++ List.replicate (4 - (lg_sl ([.ref n, .int p0, .int p1, .int p2])).length) Slot.unset).toArray = ls at hl ⊢
  have hl : lv_has ls 4 [(0, .ref n), (1, .int p0), (2, .int p1), (3, .int p2)] := hl
  refine lv_aload_n hx hb dX2_setWeight_0 rfl (lv_at hl 0 rfl) ?_
  refine va_get (D := D) (ci := 2) (v := .ref n_weights) (C := RX2) (T := TX2) (N := 8) hx hb hts inlX2 hown hK hP 0 rfl rfl 7 (by decide) (hts (Cond.fieldLink RX2 30 "ChanceRings$Net" "weights" "[I") qw_332) (fun _ h9 => h9) rfl dX2_setWeight_1 ?_
  refine lv_iload_n hx hb dX2_setWeight_4 rfl (lv_at hl 1 rfl) ?_
  refine lv_iconst (v := 3) hx hb dX2_setWeight_5 (by decide) ?_
  refine lv_imul hx hb dX2_setWeight_6 ?_
  refine lv_topi (fun v_59388 v_59388_e => ?_)
  have h_v_59388 : 0 ≤ (v_59388 : Int32).toInt ∧ (v_59388 : Int32).toInt ≤ 33 := by rw [v_59388_e]; exact tr_mul h_p0 (⟨by decide, by decide⟩ : 3 ≤ (3 : Int32).toInt ∧ (3 : Int32).toInt ≤ 3) (by decide) (by decide) (by decide) (by decide)
  refine lv_iload_n hx hb dX2_setWeight_7 rfl (lv_at hl 2 rfl) ?_
  refine lv_iadd hx hb dX2_setWeight_8 ?_
  refine lv_topi (fun v_59389 v_59389_e => ?_)
  have h_v_59389 : 0 ≤ (v_59389 : Int32).toInt ∧ (v_59389 : Int32).toInt ≤ 35 := by rw [v_59389_e]; exact tr_add h_v_59388 h_p1 (by decide) (by decide) (by decide) (by decide)
  refine lv_iload_n hx hb dX2_setWeight_9 rfl (lv_at hl 3 rfl) ?_
  refine va_iast hx hb hK hP hD hS 1 0 rfl rfl (tr_in h_v_59389 (by decide) (by decide)) dX2_setWeight_10 (fun H locs hP hD hS => ?_)
  obtain ⟨f_59390, hP, hD⟩ : ∃ FX : Nat → Int32, va_P D vwCl [(n, .inr (2, [.int n_nodes, .ref n_kind, .ref n_pay, .ref n_name, .ref n_ways, .ref n_held, .ref n_targets, .ref n_weights])), (n_weights, .inl (g 0, 36, .inl FX))] H ∧ va_D A [(n, .inr (2, [.int n_nodes, .ref n_kind, .ref n_pay, .ref n_name, .ref n_ways, .ref n_held, .ref n_targets, .ref n_weights])), (n_weights, .inl (g 0, 36, .inl FX))] := ⟨_, hP, hD⟩
  have hP : va_P D vwCl [(n, .inr (2, [.int n_nodes, .ref n_kind, .ref n_pay, .ref n_name, .ref n_ways, .ref n_held, .ref n_targets, .ref n_weights])), (n_weights, .inl (g 0, 36, .inl f_59390))] H := hP
  have hD : va_D A [(n, .inr (2, [.int n_nodes, .ref n_kind, .ref n_pay, .ref n_name, .ref n_ways, .ref n_held, .ref n_targets, .ref n_weights])), (n_weights, .inl (g 0, 36, .inl f_59390))] := hD
  have hP9 := hP.sub (ws' := [(n, .inr (2, [.int n_nodes, .ref n_kind, .ref n_pay, .ref n_name, .ref n_ways, .ref n_held, .ref n_targets, .ref n_weights])), (n_weights, .inl (g 0, 36, .inl f_59390))]) [0, 1] rfl
  have hD9 := hD.sub (ws' := [(n, .inr (2, [.int n_nodes, .ref n_kind, .ref n_pay, .ref n_name, .ref n_ways, .ref n_held, .ref n_targets, .ref n_weights])), (n_weights, .inl (g 0, 36, .inl f_59390))]) [0, 1] (by decide) rfl
  exact W.vret hx hb hr (fun t ht hW => ⟨⟨(), rfl, trivial, f_59390, by rw [ht]; exact hP9, hD9⟩, hS.F ht⟩) hS.2.2 dX2_setWeight_11
