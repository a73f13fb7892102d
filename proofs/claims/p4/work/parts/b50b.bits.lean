theorem qw_126 : Cond.methodLink RX12 208 yX12_onBits ∈ wsL_law := tseg_6 (by decide +kernel) (List.mem_of_getElem? (i := 149) (by decide +kernel))
theorem qw_127 : Cond.instanceMethod yX12_onBits ∈ wsL_law := tseg_6 (by decide +kernel) (List.mem_of_getElem? (i := 151) (by decide +kernel))
theorem qw_128 : Cond.selects RX12 yX12_onBits yX12_onBits ∈ wsL_law := List.mem_filter.mpr ⟨List.mem_append_left _ (List.mem_of_getElem? (i := 75) (by decide +kernel)), by decide +kernel⟩
theorem qw_129 : Cond.code yX12_onBits cX12_onBits 4 (some .int) ∈ wsL_law := tseg_6 (by decide +kernel) (List.mem_of_getElem? (i := 152) (by decide +kernel))
theorem dX12_bitOf_0 : decode cX12_bitOf 0 = .ok (.iload_n 0, 1) := by decide +kernel
theorem dX12_bitOf_1 : decode cX12_bitOf 1 = .ok (.iload_n 1, 1) := by decide +kernel
theorem dX12_bitOf_2 : decode cX12_bitOf 2 = .ok (.ishr, 1) := by decide +kernel
theorem dX12_bitOf_3 : decode cX12_bitOf 3 = .ok (.iconst 1, 1) := by decide +kernel
theorem dX12_bitOf_4 : decode cX12_bitOf 4 = .ok (.iand, 1) := by decide +kernel
theorem dX12_bitOf_5 : decode cX12_bitOf 5 = .ok (.iconst 1, 1) := by decide +kernel
theorem dX12_bitOf_6 : decode cX12_bitOf 6 = .ok (.if_icmp .ne 7, 3) := by decide +kernel
theorem dX12_bitOf_9 : decode cX12_bitOf 9 = .ok (.iconst 1, 1) := by decide +kernel
theorem dX12_bitOf_10 : decode cX12_bitOf 10 = .ok (.goto 4, 3) := by decide +kernel
theorem dX12_bitOf_13 : decode cX12_bitOf 13 = .ok (.iconst 0, 1) := by decide +kernel
theorem dX12_bitOf_14 : decode cX12_bitOf 14 = .ok (.ireturn, 1) := by decide +kernel
theorem dX12_comes_0 : decode cX12_comes 0 = .ok (.iload_n 1, 1) := by decide +kernel
theorem dX12_comes_1 : decode cX12_comes 1 = .ok (.istore_n 2, 1) := by decide +kernel
theorem dX12_comes_2 : decode cX12_comes 2 = .ok (.iconst 0, 1) := by decide +kernel
theorem dX12_comes_3 : decode cX12_comes 3 = .ok (.istore_n 3, 1) := by decide +kernel
theorem dX12_comes_4 : decode cX12_comes 4 = .ok (.iload_n 3, 1) := by decide +kernel
theorem dX12_comes_5 : decode cX12_comes 5 = .ok (.iload_n 2, 1) := by decide +kernel
theorem dX12_comes_6 : decode cX12_comes 6 = .ok (.if_icmp .eq 56, 3) := by decide +kernel
theorem dX12_comes_9 : decode cX12_comes 9 = .ok (.iload_n 2, 1) := by decide +kernel
theorem dX12_comes_10 : decode cX12_comes 10 = .ok (.istore_n 3, 1) := by decide +kernel
theorem dX12_comes_11 : decode cX12_comes 11 = .ok (.iconst 0, 1) := by decide +kernel
theorem dX12_comes_12 : decode cX12_comes 12 = .ok (.istore 4, 2) := by decide +kernel
theorem dX12_comes_14 : decode cX12_comes 14 = .ok (.iload 4, 2) := by decide +kernel
theorem dX12_comes_16 : decode cX12_comes 16 = .ok (.aload_n 0, 1) := by decide +kernel
theorem dX12_comes_17 : decode cX12_comes 17 = .ok (.getfield 13, 3) := by decide +kernel
theorem dX12_comes_20 : decode cX12_comes 20 = .ok (.iconst 0, 1) := by decide +kernel
theorem dX12_comes_21 : decode cX12_comes 21 = .ok (.iaload, 1) := by decide +kernel
theorem dX12_comes_22 : decode cX12_comes 22 = .ok (.if_icmp .ge 37, 3) := by decide +kernel
theorem dX12_comes_25 : decode cX12_comes 25 = .ok (.aload_n 0, 1) := by decide +kernel
theorem dX12_comes_26 : decode cX12_comes 26 = .ok (.iload 4, 2) := by decide +kernel
theorem dX12_comes_28 : decode cX12_comes 28 = .ok (.iconst 0, 1) := by decide +kernel
theorem dX12_comes_29 : decode cX12_comes 29 = .ok (.invokevirtual 187, 3) := by decide +kernel
theorem dX12_comes_32 : decode cX12_comes 32 = .ok (.ifCond .ne 21, 3) := by decide +kernel
theorem dX12_comes_35 : decode cX12_comes 35 = .ok (.aload_n 0, 1) := by decide +kernel
theorem dX12_comes_36 : decode cX12_comes 36 = .ok (.iload 4, 2) := by decide +kernel
theorem dX12_comes_38 : decode cX12_comes 38 = .ok (.invokevirtual 208, 3) := by decide +kernel
theorem dX12_comes_41 : decode cX12_comes 41 = .ok (.iload_n 2, 1) := by decide +kernel
theorem dX12_comes_42 : decode cX12_comes 42 = .ok (.iand, 1) := by decide +kernel
theorem dX12_comes_43 : decode cX12_comes 43 = .ok (.ifCond .eq 10, 3) := by decide +kernel
theorem dX12_comes_46 : decode cX12_comes 46 = .ok (.iload_n 2, 1) := by decide +kernel
theorem dX12_comes_47 : decode cX12_comes 47 = .ok (.iconst 1, 1) := by decide +kernel
theorem dX12_comes_48 : decode cX12_comes 48 = .ok (.iload 4, 2) := by decide +kernel
theorem dX12_comes_50 : decode cX12_comes 50 = .ok (.ishl, 1) := by decide +kernel
theorem dX12_comes_51 : decode cX12_comes 51 = .ok (.ior, 1) := by decide +kernel
theorem dX12_comes_52 : decode cX12_comes 52 = .ok (.istore_n 2, 1) := by decide +kernel
theorem dX12_comes_53 : decode cX12_comes 53 = .ok (.iinc 4 1, 3) := by decide +kernel
theorem dX12_comes_56 : decode cX12_comes 56 = .ok (.goto (-42), 3) := by decide +kernel
theorem dX12_comes_59 : decode cX12_comes 59 = .ok (.goto (-55), 3) := by decide +kernel
theorem dX12_comes_62 : decode cX12_comes 62 = .ok (.iload_n 2, 1) := by decide +kernel
theorem dX12_comes_63 : decode cX12_comes 63 = .ok (.ireturn, 1) := by decide +kernel
theorem dX12_ends_0 : decode cX12_ends 0 = .ok (.iconst 0, 1) := by decide +kernel
theorem dX12_ends_1 : decode cX12_ends 1 = .ok (.istore_n 1, 1) := by decide +kernel
theorem dX12_ends_2 : decode cX12_ends 2 = .ok (.iconst 0, 1) := by decide +kernel
theorem dX12_ends_3 : decode cX12_ends 3 = .ok (.istore_n 2, 1) := by decide +kernel
theorem dX12_ends_4 : decode cX12_ends 4 = .ok (.iload_n 2, 1) := by decide +kernel
theorem dX12_ends_5 : decode cX12_ends 5 = .ok (.aload_n 0, 1) := by decide +kernel
theorem dX12_ends_6 : decode cX12_ends 6 = .ok (.getfield 13, 3) := by decide +kernel
theorem dX12_ends_9 : decode cX12_ends 9 = .ok (.iconst 0, 1) := by decide +kernel
theorem dX12_ends_10 : decode cX12_ends 10 = .ok (.iaload, 1) := by decide +kernel
theorem dX12_ends_11 : decode cX12_ends 11 = .ok (.if_icmp .ge 28, 3) := by decide +kernel
theorem dX12_ends_14 : decode cX12_ends 14 = .ok (.iload_n 1, 1) := by decide +kernel
theorem dX12_ends_15 : decode cX12_ends 15 = .ok (.aload_n 0, 1) := by decide +kernel
theorem dX12_ends_16 : decode cX12_ends 16 = .ok (.iload_n 2, 1) := by decide +kernel
theorem dX12_ends_17 : decode cX12_ends 17 = .ok (.iconst 0, 1) := by decide +kernel
theorem dX12_ends_18 : decode cX12_ends 18 = .ok (.invokevirtual 187, 3) := by decide +kernel
theorem dX12_ends_21 : decode cX12_ends 21 = .ok (.ifCond .eq 9, 3) := by decide +kernel
theorem dX12_ends_24 : decode cX12_ends 24 = .ok (.iconst 1, 1) := by decide +kernel
theorem dX12_ends_25 : decode cX12_ends 25 = .ok (.iload_n 2, 1) := by decide +kernel
theorem dX12_ends_26 : decode cX12_ends 26 = .ok (.ishl, 1) := by decide +kernel
theorem dX12_ends_27 : decode cX12_ends 27 = .ok (.goto 4, 3) := by decide +kernel
theorem dX12_ends_30 : decode cX12_ends 30 = .ok (.iconst 0, 1) := by decide +kernel
theorem dX12_ends_31 : decode cX12_ends 31 = .ok (.ior, 1) := by decide +kernel
theorem dX12_ends_32 : decode cX12_ends 32 = .ok (.istore_n 1, 1) := by decide +kernel
theorem dX12_ends_33 : decode cX12_ends 33 = .ok (.iinc 2 1, 3) := by decide +kernel
theorem dX12_ends_36 : decode cX12_ends 36 = .ok (.goto (-32), 3) := by decide +kernel
theorem dX12_ends_39 : decode cX12_ends 39 = .ok (.iload_n 1, 1) := by decide +kernel
theorem dX12_ends_40 : decode cX12_ends 40 = .ok (.ireturn, 1) := by decide +kernel
theorem dX12_isPart_0 : decode cX12_isPart 0 = .ok (.iload_n 0, 1) := by decide +kernel
theorem dX12_isPart_1 : decode cX12_isPart 1 = .ok (.ifCond .eq 8, 3) := by decide +kernel
theorem dX12_isPart_4 : decode cX12_isPart 4 = .ok (.iload_n 0, 1) := by decide +kernel
theorem dX12_isPart_5 : decode cX12_isPart 5 = .ok (.iconst 1, 1) := by decide +kernel
theorem dX12_isPart_6 : decode cX12_isPart 6 = .ok (.if_icmp .ne 7, 3) := by decide +kernel
theorem dX12_isPart_9 : decode cX12_isPart 9 = .ok (.iconst 1, 1) := by decide +kernel
theorem dX12_isPart_10 : decode cX12_isPart 10 = .ok (.goto 4, 3) := by decide +kernel
theorem dX12_isPart_13 : decode cX12_isPart 13 = .ok (.iconst 0, 1) := by decide +kernel
theorem dX12_isPart_14 : decode cX12_isPart 14 = .ok (.ireturn, 1) := by decide +kernel
theorem dX12_onBits_0 : decode cX12_onBits 0 = .ok (.iconst 0, 1) := by decide +kernel
theorem dX12_onBits_1 : decode cX12_onBits 1 = .ok (.istore_n 2, 1) := by decide +kernel
theorem dX12_onBits_2 : decode cX12_onBits 2 = .ok (.iconst 0, 1) := by decide +kernel
theorem dX12_onBits_3 : decode cX12_onBits 3 = .ok (.istore_n 3, 1) := by decide +kernel
theorem dX12_onBits_4 : decode cX12_onBits 4 = .ok (.iload_n 3, 1) := by decide +kernel
theorem dX12_onBits_5 : decode cX12_onBits 5 = .ok (.aload_n 0, 1) := by decide +kernel
theorem dX12_onBits_6 : decode cX12_onBits 6 = .ok (.getfield 13, 3) := by decide +kernel
theorem dX12_onBits_9 : decode cX12_onBits 9 = .ok (.bipush 25, 2) := by decide +kernel
theorem dX12_onBits_11 : decode cX12_onBits 11 = .ok (.iload_n 1, 1) := by decide +kernel
theorem dX12_onBits_12 : decode cX12_onBits 12 = .ok (.iadd, 1) := by decide +kernel
theorem dX12_onBits_13 : decode cX12_onBits 13 = .ok (.iaload, 1) := by decide +kernel
theorem dX12_onBits_14 : decode cX12_onBits 14 = .ok (.if_icmp .ge 39, 3) := by decide +kernel
theorem dX12_onBits_17 : decode cX12_onBits 17 = .ok (.aload_n 0, 1) := by decide +kernel
theorem dX12_onBits_18 : decode cX12_onBits 18 = .ok (.iload_n 1, 1) := by decide +kernel
theorem dX12_onBits_19 : decode cX12_onBits 19 = .ok (.iconst 3, 1) := by decide +kernel
theorem dX12_onBits_20 : decode cX12_onBits 20 = .ok (.invokevirtual 187, 3) := by decide +kernel
theorem dX12_onBits_23 : decode cX12_onBits 23 = .ok (.ifCond .ne 13, 3) := by decide +kernel
theorem dX12_onBits_26 : decode cX12_onBits 26 = .ok (.aload_n 0, 1) := by decide +kernel
theorem dX12_onBits_27 : decode cX12_onBits 27 = .ok (.getfield 40, 3) := by decide +kernel
theorem dX12_onBits_30 : decode cX12_onBits 30 = .ok (.iload_n 1, 1) := by decide +kernel
theorem dX12_onBits_31 : decode cX12_onBits 31 = .ok (.iaload, 1) := by decide +kernel
theorem dX12_onBits_32 : decode cX12_onBits 32 = .ok (.iload_n 3, 1) := by decide +kernel
theorem dX12_onBits_33 : decode cX12_onBits 33 = .ok (.if_icmp .ne 14, 3) := by decide +kernel
theorem dX12_onBits_36 : decode cX12_onBits 36 = .ok (.iload_n 2, 1) := by decide +kernel
theorem dX12_onBits_37 : decode cX12_onBits 37 = .ok (.iconst 1, 1) := by decide +kernel
theorem dX12_onBits_38 : decode cX12_onBits 38 = .ok (.aload_n 0, 1) := by decide +kernel
theorem dX12_onBits_39 : decode cX12_onBits 39 = .ok (.iload_n 1, 1) := by decide +kernel
theorem dX12_onBits_40 : decode cX12_onBits 40 = .ok (.iload_n 3, 1) := by decide +kernel
theorem dX12_onBits_41 : decode cX12_onBits 41 = .ok (.invokevirtual 197, 3) := by decide +kernel
theorem dX12_onBits_44 : decode cX12_onBits 44 = .ok (.ishl, 1) := by decide +kernel
theorem dX12_onBits_45 : decode cX12_onBits 45 = .ok (.ior, 1) := by decide +kernel
theorem dX12_onBits_46 : decode cX12_onBits 46 = .ok (.istore_n 2, 1) := by decide +kernel
theorem dX12_onBits_47 : decode cX12_onBits 47 = .ok (.iinc 3 1, 3) := by decide +kernel
theorem dX12_onBits_50 : decode cX12_onBits 50 = .ok (.goto (-46), 3) := by decide +kernel
theorem dX12_onBits_53 : decode cX12_onBits 53 = .ok (.iload_n 2, 1) := by decide +kernel
theorem dX12_onBits_54 : decode cX12_onBits 54 = .ok (.ireturn, 1) := by decide +kernel
set_option maxHeartbeats 4000000 in
set_option maxRecDepth 100000 in
theorem c_X12_isPart (l : Launch) (D : va_G) (g : Nat → ClassId) (p0 : Int32) : Met l yX12_isPart (.code yX12_isPart cX12_isPart 1 (some .boolean) :: wsL_law) ({ frames := 0, cells := 0, slots := 0, locals := 0 }) (va_Pc [.int p0] (fun U => va_P D vwCl [] U.heap ∧ va_K D vwCl (TY g) U)) (vp_Si (fun r => (0 ≤ (r : Int32).toInt ∧ (r : Int32).toInt ≤ 1) ∧ (Hide (¬ (r : Int32).toInt = 0 → (p0 : Int32).toInt = 0 ∨ (p0 : Int32).toInt = 1)))) 0 0 (fun _ => False) := by
  refine Met.ofW (cc := cX12_isPart) (maxL := 1) (ret := (some .boolean)) (by decide) rfl ?_
  intro p e s m args below meth c s₁ B hml hv
  obtain ⟨ha, hP, hK⟩ := hv
  have hx := B.exec
  have hb := B.bytes
  have hr := B.returns
  have hts0 := atoms_spec (ws := (.code yX12_isPart cX12_isPart 1 (some .boolean) :: wsL_law)) B.pre
  have hts : ∀ w ∈ wsL_law, w.before args s = true := fun w h => hts0 w (List.mem_cons_of_mem _ h)
  have hown : s.vm.findClass RX12 = some m.cls := findClass_of_methodNamed B.named
  have hlocks := B.notSynchronized
  have hP : va_P D vwCl [] s.heap := hP
  refine W.eq (g2 := entryFrame m ([.int p0] : List Value).toArray 1) (by rw [ha]) ?_
  have hl := lv_entry ([.int p0]) (n := 1) (Nat.le_of_ble_eq_true rfl)
  rw [lg_entry_eq]
  generalize (lg_sl ([.int p0]) ++ List.replicate (1 - (lg_sl ([.int p0])).length) Slot.unset).toArray = ls at hl ⊢
  have hl : lv_has ls 1 [(0, .int p0)] := hl
  refine lv_iload_n hx hb dX12_isPart_0 rfl (lv_at hl 0 rfl) ?_
  refine lv_if_eq (tgt := 9) hx hb dX12_isPart_1 (by decide) (fun c_7415 => ?_) (fun c_7415 => ?_)
  · skip
    have kk_0 := tk_0
    have c_7415_i : (p0 : Int32).toInt = (0 : Int32).toInt := congrArg Int32.toInt c_7415
    have h_7416 : 0 ≤ (p0 : Int32).toInt ∧ (p0 : Int32).toInt ≤ 0 := by rw [c_7415]; exact ⟨by decide, by decide⟩
    refine lv_iconst (v := 1) hx hb dX12_isPart_9 (by decide) ?_
    refine lv_goto (tgt := 14) hx hb dX12_isPart_10 (by decide) ?_
    exact W.zret (v := 1) hx hb hr (by decide) (fun t ht hW => ⟨1, rfl, ⟨(⟨by decide, by decide⟩ : 0 ≤ (1 : Int32).toInt ∧ (1 : Int32).toInt ≤ 1), (fun h9 => (by have z_0 := tk_0; have z_1 := tk_1; omega))⟩, ht⟩) (fun _ h => nomatch h) dX12_isPart_14
  · skip
    have kk_0 := tk_0
    have c_7415_i : ¬ (p0 : Int32).toInt = (0 : Int32).toInt := (fun q => c_7415 (Int32.toInt_inj.mp q))
    refine lv_iload_n hx hb dX12_isPart_4 rfl (lv_at hl 0 rfl) ?_
    refine lv_iconst (v := 1) hx hb dX12_isPart_5 (by decide) ?_
    refine lv_icmp_ne (tgt := 13) hx hb dX12_isPart_6 (by decide) (fun c_7417 => ?_) (fun c_7417 => ?_)
    · skip
      have kk_1 := tk_1
      have c_7417_i : ¬ (p0 : Int32).toInt = (1 : Int32).toInt := (fun q => c_7417 (Int32.toInt_inj.mp q))
      refine lv_iconst (v := 0) hx hb dX12_isPart_13 (by decide) ?_
      exact W.zret (v := 0) hx hb hr (by decide) (fun t ht hW => ⟨0, rfl, ⟨(⟨by decide, by decide⟩ : 0 ≤ (0 : Int32).toInt ∧ (0 : Int32).toInt ≤ 1), (fun h9 => (by have z_0 := tk_0; have z_1 := tk_1; omega))⟩, ht⟩) (fun _ h => nomatch h) dX12_isPart_14
    · skip
      have kk_1 := tk_1
      have c_7417_i : (p0 : Int32).toInt = (1 : Int32).toInt := congrArg Int32.toInt c_7417
      have h_7418 : 1 ≤ (p0 : Int32).toInt ∧ (p0 : Int32).toInt ≤ 1 := by rw [c_7417]; exact ⟨by decide, by decide⟩
      refine lv_iconst (v := 1) hx hb dX12_isPart_9 (by decide) ?_
      refine lv_goto (tgt := 14) hx hb dX12_isPart_10 (by decide) ?_
      exact W.zret (v := 1) hx hb hr (by decide) (fun t ht hW => ⟨1, rfl, ⟨(⟨by decide, by decide⟩ : 0 ≤ (1 : Int32).toInt ∧ (1 : Int32).toInt ≤ 1), (fun h9 => (by have z_0 := tk_0; have z_1 := tk_1; omega))⟩, ht⟩) (fun _ h => nomatch h) dX12_isPart_14
set_option maxHeartbeats 4000000 in
set_option maxRecDepth 100000 in
theorem c_X12_bitOf (l : Launch) (D : va_G) (g : Nat → ClassId) (p0 : Int32) (p1 : Int32) : Met l yX12_bitOf (.code yX12_bitOf cX12_bitOf 2 (some .boolean) :: wsL_law) ({ frames := 0, cells := 0, slots := 0, locals := 0 }) (va_Pc [.int p0, .int p1] (fun U => va_P D vwCl [] U.heap ∧ va_K D vwCl (TY g) U)) (vp_Si (fun r => 0 ≤ (r : Int32).toInt ∧ (r : Int32).toInt ≤ 1)) 0 0 (fun _ => False) := by
  refine Met.ofW (cc := cX12_bitOf) (maxL := 2) (ret := (some .boolean)) (by decide) rfl ?_
  intro p e s m args below meth c s₁ B hml hv
  obtain ⟨ha, hP, hK⟩ := hv
  have hx := B.exec
  have hb := B.bytes
  have hr := B.returns
  have hts0 := atoms_spec (ws := (.code yX12_bitOf cX12_bitOf 2 (some .boolean) :: wsL_law)) B.pre
  have hts : ∀ w ∈ wsL_law, w.before args s = true := fun w h => hts0 w (List.mem_cons_of_mem _ h)
  have hown : s.vm.findClass RX12 = some m.cls := findClass_of_methodNamed B.named
  have hlocks := B.notSynchronized
  have hP : va_P D vwCl [] s.heap := hP
  refine W.eq (g2 := entryFrame m ([.int p0, .int p1] : List Value).toArray 2) (by rw [ha]) ?_
  have hl := lv_entry ([.int p0, .int p1]) (n := 2) (Nat.le_of_ble_eq_true rfl)
  rw [lg_entry_eq]
  generalize (lg_sl ([.int p0, .int p1]) ++ List.replicate (2 - (lg_sl ([.int p0, .int p1])).length) Slot.unset).toArray = ls at hl ⊢
  have hl : lv_has ls 2 [(0, .int p0), (1, .int p1)] := hl
  refine lv_iload_n hx hb dX12_bitOf_0 rfl (lv_at hl 0 rfl) ?_
  refine lv_iload_n hx hb dX12_bitOf_1 rfl (lv_at hl 1 rfl) ?_
  refine lv_ishr hx hb dX12_bitOf_2 ?_
  refine lv_topi (fun v_7419 v_7419_e => ?_)
  refine lv_iconst (v := 1) hx hb dX12_bitOf_3 (by decide) ?_
  refine lv_iand hx hb dX12_bitOf_4 ?_
  refine lv_topi (fun v_7420 v_7420_e => ?_)
  refine lv_iconst (v := 1) hx hb dX12_bitOf_5 (by decide) ?_
  refine lv_icmp_ne (tgt := 13) hx hb dX12_bitOf_6 (by decide) (fun c_7421 => ?_) (fun c_7421 => ?_)
  · skip
    have kk_1 := tk_1
    have c_7421_i : ¬ (v_7420 : Int32).toInt = (1 : Int32).toInt := (fun q => c_7421 (Int32.toInt_inj.mp q))
    refine lv_iconst (v := 0) hx hb dX12_bitOf_13 (by decide) ?_
    exact W.zret (v := 0) hx hb hr (by decide) (fun t ht hW => ⟨0, rfl, (⟨by decide, by decide⟩ : 0 ≤ (0 : Int32).toInt ∧ (0 : Int32).toInt ≤ 1), ht⟩) (fun _ h => nomatch h) dX12_bitOf_14
  · skip
    have kk_1 := tk_1
    have c_7421_i : (v_7420 : Int32).toInt = (1 : Int32).toInt := congrArg Int32.toInt c_7421
    have h_7422 : 1 ≤ (v_7420 : Int32).toInt ∧ (v_7420 : Int32).toInt ≤ 1 := by rw [c_7421]; exact ⟨by decide, by decide⟩
    refine lv_iconst (v := 1) hx hb dX12_bitOf_9 (by decide) ?_
    refine lv_goto (tgt := 14) hx hb dX12_bitOf_10 (by decide) ?_
    exact W.zret (v := 1) hx hb hr (by decide) (fun t ht hW => ⟨1, rfl, (⟨by decide, by decide⟩ : 0 ≤ (1 : Int32).toInt ∧ (1 : Int32).toInt ≤ 1), ht⟩) (fun _ h => nomatch h) dX12_bitOf_14
set_option maxHeartbeats 4000000 in
set_option maxRecDepth 100000 in
theorem c_X12_bitOf2 (l : Launch) (D : va_G) (g : Nat → ClassId) (p0 : Int32) (p1 : Int32) (h_p0 : 0 ≤ (p0 : Int32).toInt ∧ (p0 : Int32).toInt ≤ 4095) (h_p1 : 0 ≤ (p1 : Int32).toInt ∧ (p1 : Int32).toInt ≤ 11) : Met l yX12_bitOf (.code yX12_bitOf cX12_bitOf 2 (some .boolean) :: wsL_law) ({ frames := 0, cells := 0, slots := 0, locals := 0 }) (va_Pc [.int p0, .int p1] (fun U => va_P D vwCl [] U.heap ∧ va_K D vwCl (TY g) U)) (vp_Si (fun r => (0 ≤ (r : Int32).toInt ∧ (r : Int32).toInt ≤ 1) ∧ (Hide (¬ (r : Int32).toInt = 0 → bt p0 (p1 : Int32).toInt.toNat)) ∧ (Hide ((r : Int32).toInt = 0 → ¬ bt p0 (p1 : Int32).toInt.toNat)))) 0 0 (fun _ => False) := by
  refine Met.ofW (cc := cX12_bitOf) (maxL := 2) (ret := (some .boolean)) (by decide) rfl ?_
  intro p e s m args below meth c s₁ B hml hv
  obtain ⟨ha, hP, hK⟩ := hv
  have hx := B.exec
  have hb := B.bytes
  have hr := B.returns
  have hts0 := atoms_spec (ws := (.code yX12_bitOf cX12_bitOf 2 (some .boolean) :: wsL_law)) B.pre
  have hts : ∀ w ∈ wsL_law, w.before args s = true := fun w h => hts0 w (List.mem_cons_of_mem _ h)
  have hown : s.vm.findClass RX12 = some m.cls := findClass_of_methodNamed B.named
  have hlocks := B.notSynchronized
  have hP : va_P D vwCl [] s.heap := hP
  refine W.eq (g2 := entryFrame m ([.int p0, .int p1] : List Value).toArray 2) (by rw [ha]) ?_
  have hl := lv_entry ([.int p0, .int p1]) (n := 2) (Nat.le_of_ble_eq_true rfl)
  rw [lg_entry_eq]
  generalize (lg_sl ([.int p0, .int p1]) ++ List.replicate (2 - (lg_sl ([.int p0, .int p1])).length) Slot.unset).toArray = ls at hl ⊢
  have hl : lv_has ls 2 [(0, .int p0), (1, .int p1)] := hl
  refine lv_iload_n hx hb dX12_bitOf_0 rfl (lv_at hl 0 rfl) ?_
  refine lv_iload_n hx hb dX12_bitOf_1 rfl (lv_at hl 1 rfl) ?_
  refine lv_ishr hx hb dX12_bitOf_2 ?_
  refine lv_topi (fun v_7423 v_7423_e => ?_)
  refine lv_iconst (v := 1) hx hb dX12_bitOf_3 (by decide) ?_
  refine lv_iand hx hb dX12_bitOf_4 ?_
  refine lv_topi (fun v_7424 v_7424_e => ?_)
  refine lv_iconst (v := 1) hx hb dX12_bitOf_5 (by decide) ?_
  refine lv_icmp_ne (tgt := 13) hx hb dX12_bitOf_6 (by decide) (fun c_7425 => ?_) (fun c_7425 => ?_)
  · skip
    have kk_1 := tk_1
    have c_7425_i : ¬ (v_7424 : Int32).toInt = (1 : Int32).toInt := (fun q => c_7425 (Int32.toInt_inj.mp q))
    refine lv_iconst (v := 0) hx hb dX12_bitOf_13 (by decide) ?_
    exact W.zret (v := 0) hx hb hr (by decide) (fun t ht hW => ⟨0, rfl, ⟨(⟨by decide, by decide⟩ : 0 ≤ (0 : Int32).toInt ∧ (0 : Int32).toInt ≤ 1), (fun h9 => absurd h9 (by decide)), (fun _ h8 => c_7425 (by rw [v_7424_e, v_7423_e]; exact (tr_bit h_p0 h_p1).mpr h8))⟩, ht⟩) (fun _ h => nomatch h) dX12_bitOf_14
  · skip
    have kk_1 := tk_1
    have c_7425_i : (v_7424 : Int32).toInt = (1 : Int32).toInt := congrArg Int32.toInt c_7425
    have h_7426 : 1 ≤ (v_7424 : Int32).toInt ∧ (v_7424 : Int32).toInt ≤ 1 := by rw [c_7425]; exact ⟨by decide, by decide⟩
    refine lv_iconst (v := 1) hx hb dX12_bitOf_9 (by decide) ?_
    refine lv_goto (tgt := 14) hx hb dX12_bitOf_10 (by decide) ?_
    exact W.zret (v := 1) hx hb hr (by decide) (fun t ht hW => ⟨1, rfl, ⟨(⟨by decide, by decide⟩ : 0 ≤ (1 : Int32).toInt ∧ (1 : Int32).toInt ≤ 1), (fun _ => (tr_bit h_p0 h_p1).mp (by rw [← v_7423_e, ← v_7424_e]; exact c_7425)), (fun h9 => absurd h9 (by decide))⟩, ht⟩) (fun _ h => nomatch h) dX12_bitOf_14
set_option maxHeartbeats 4000000 in
set_option maxRecDepth 100000 in
theorem c_X12_onBits (l : Launch) (D : va_G) (g : Nat → ClassId) (mm : Nat) (p0 : Int32) (i_thrown : Int32) (m_s : Nat) (m_spare : Nat) (m_kept : Nat) (m_undone : Nat) (m_triedWay : Nat) (m_isKept : Nat) (i_undoMany : Int32) (m_tape : Nat) (i_length : Int32) (i_size : Int32) (i_p : Int32) (i_at : Int32) (i_token : Int32) (i_number : Int32) (i_letterMany : Int32) (i_fault : Int32) (i_faultAt : Int32) (m_letters : Nat) (i_isKnown : Int32) (m_choice : Nat) (m_row : Nat) (m_up : Nat) (m_low : Nat) (m_m : Nat) (m_bestUp : Nat) (m_bestLow : Nat) (m_replyUp : Nat) (m_replyLow : Nat) (m_worthUp : Nat) (m_worthLow : Nat) (m_bestWay : Nat) (i_seed : Int32) (m_told : Nat) (i_toldMany : Int32) (sf : Nat → Int32) (chf : Nat → Int32) (h_p0 : 0 ≤ (p0 : Int32).toInt ∧ (p0 : Int32).toInt ≤ 11) (h_i_undoMany : 0 ≤ (i_undoMany : Int32).toInt ∧ (i_undoMany : Int32).toInt ≤ 8) (h_i_length : 0 ≤ (i_length : Int32).toInt ∧ (i_length : Int32).toInt ≤ 440) (h_i_size : 0 ≤ (i_size : Int32).toInt ∧ (i_size : Int32).toInt ≤ 440) (h_i_p : 0 ≤ (i_p : Int32).toInt ∧ (i_p : Int32).toInt ≤ 440) (h_i_at : 0 ≤ (i_at : Int32).toInt ∧ (i_at : Int32).toInt ≤ 440) (h_i_token : 0 ≤ (i_token : Int32).toInt ∧ (i_token : Int32).toInt ≤ 4) (h_i_number : 0 ≤ (i_number : Int32).toInt ∧ (i_number : Int32).toInt ≤ 814) (h_i_letterMany : (-440) ≤ (i_letterMany : Int32).toInt ∧ (i_letterMany : Int32).toInt ≤ 440) (h_i_faultAt : 0 ≤ (i_faultAt : Int32).toInt ∧ (i_faultAt : Int32).toInt ≤ 440) (h_i_isKnown : 0 ≤ (i_isKnown : Int32).toInt ∧ (i_isKnown : Int32).toInt ≤ 1) (h_i_toldMany : 0 ≤ (i_toldMany : Int32).toInt ∧ (i_toldMany : Int32).toInt ≤ 900) (h_chf : ∀ j : Nat, 0 ≤ (chf j).toInt ∧ (chf j).toInt ≤ 2) (hG : GS sf) : Met l yX12_onBits (.code yX12_onBits cX12_onBits 4 (some .int) :: wsL_law) ({ frames := 1, cells := 0, slots := 0, locals := 22 }) (va_Pc [.ref mm, .int p0] (fun U => va_P D vwCl [(mm, .inr (12, (.int i_thrown :: .ref m_s :: .ref m_spare :: .ref m_kept :: .ref m_undone :: .ref m_triedWay :: .ref m_isKept :: .int i_undoMany :: .ref m_tape :: .int i_length :: .int i_size :: .int i_p :: .int i_at :: .int i_token :: .int i_number :: .int i_letterMany :: .int i_fault :: .int i_faultAt :: .ref m_letters :: .int i_isKnown :: .ref m_choice :: .ref m_row :: .ref m_up :: .ref m_low :: .ref m_m :: .ref m_bestUp :: .ref m_bestLow :: .ref m_replyUp :: .ref m_replyLow :: .ref m_worthUp :: .ref m_worthLow :: .ref m_bestWay :: .int i_seed :: .ref m_told :: .int i_toldMany :: []))), (m_s, .inl (g 0, 193, .inl sf)), (m_choice, .inl (g 0, 12, .inl chf))] U.heap ∧ va_K D vwCl (TY g) U)) (vp_Si (fun r => (0 ≤ (r : Int32).toInt ∧ (r : Int32).toInt ≤ 4095) ∧ (∀ j : Nat, bt r j ↔ ON sf chf (p0 : Int32).toInt.toNat j))) 0 0 (fun _ => False) := by
  refine Met.ofW (cc := cX12_onBits) (maxL := 4) (ret := (some .int)) (by decide) rfl ?_
  intro p e s m args below meth c s₁ B hml hv
  obtain ⟨ha, hP, hK⟩ := hv
  have hx := B.exec
  have hb := B.bytes
  have hr := B.returns
  have hts0 := atoms_spec (ws := (.code yX12_onBits cX12_onBits 4 (some .int) :: wsL_law)) B.pre
  have hts : ∀ w ∈ wsL_law, w.before args s = true := fun w h => hts0 w (List.mem_cons_of_mem _ h)
  have hown : s.vm.findClass RX12 = some m.cls := findClass_of_methodNamed B.named
  have hlocks := B.notSynchronized
  have hP : va_P D vwCl [(mm, .inr (12, (.int i_thrown :: .ref m_s :: .ref m_spare :: .ref m_kept :: .ref m_undone :: .ref m_triedWay :: .ref m_isKept :: .int i_undoMany :: .ref m_tape :: .int i_length :: .int i_size :: .int i_p :: .int i_at :: .int i_token :: .int i_number :: .int i_letterMany :: .int i_fault :: .int i_faultAt :: .ref m_letters :: .int i_isKnown :: .ref m_choice :: .ref m_row :: .ref m_up :: .ref m_low :: .ref m_m :: .ref m_bestUp :: .ref m_bestLow :: .ref m_replyUp :: .ref m_replyLow :: .ref m_worthUp :: .ref m_worthLow :: .ref m_bestWay :: .int i_seed :: .ref m_told :: .int i_toldMany :: []))), (m_s, .inl (g 0, 193, .inl sf)), (m_choice, .inl (g 0, 12, .inl chf))] s.heap := hP
  refine W.eq (g2 := entryFrame m ([.ref mm, .int p0] : List Value).toArray 4) (by rw [ha]) ?_
  have hl := lv_entry ([.ref mm, .int p0]) (n := 4) (Nat.le_of_ble_eq_true rfl)
  rw [lg_entry_eq]
  generalize (lg_sl ([.ref mm, .int p0]) ++ List.replicate (4 - (lg_sl ([.ref mm, .int p0])).length) Slot.unset).toArray = ls at hl ⊢
  have hl : lv_has ls 4 [(0, .ref mm), (1, .int p0)] := hl
  refine lv_iconst (v := 0) hx hb dX12_onBits_0 (by decide) ?_
  refine lv_istore_n (lv' := [(2, .int 0), (0, .ref mm), (1, .int p0)]) hx hb dX12_onBits_1 rfl hl (by decide) rfl (fun ls hl => ?_)
  refine lv_iconst (v := 0) hx hb dX12_onBits_2 (by decide) ?_
  refine lv_istore_n (lv' := [(3, .int 0), (2, .int 0), (0, .ref mm), (1, .int p0)]) hx hb dX12_onBits_3 rfl hl (by decide) rfl (fun ls hl => ?_)
  have lp_7454 : ∀ (n_7454 : Nat) (x_7452 : Int32) (x_7453 : Int32) (ls : Array Slot), (0 ≤ (x_7452 : Int32).toInt ∧ (x_7452 : Int32).toInt ≤ 4095) → (0 ≤ (x_7453 : Int32).toInt ∧ (x_7453 : Int32).toInt ≤ 3) → (∀ j : Nat, bt x_7452 j ↔ ONi sf chf (p0 : Int32).toInt.toNat x_7453.toInt.toNat j) → (x_7453.toInt ≤ (sf (25 + (p0 : Int32).toInt.toNat)).toInt) → (3 - x_7453.toInt < (n_7454 : Int)) → lv_has ls 4 [(3, .int x_7453), (2, .int x_7452), (0, .ref mm), (1, .int p0)] → W p l e (headSpec (.code yX12_onBits cX12_onBits 4 (some .int) :: wsL_law) ({ frames := 1, cells := 0, slots := 0, locals := 22 })).room s m args below meth c s.heap [] 0 0 (MQ below (vp_Si (fun r => (0 ≤ (r : Int32).toInt ∧ (r : Int32).toInt ≤ 4095) ∧ (∀ j : Nat, bt r j ↔ ON sf chf (p0 : Int32).toInt.toNat j))) args s 0 0 (fun _ => False)) (F0 m 4 ls []) := by
    intro n_7454
    induction n_7454 with
    | zero =>
      intro x_7452 x_7453 ls h_x_7452 h_x_7453 hr7454_0 hr7454_1 hm_7454 hl
      exfalso; omega
    | succ n_7454 ih_7454 =>
      intro x_7452 x_7453 ls h_x_7452 h_x_7453 hr7454_0 hr7454_1 hm_7454 hl
      refine lv_iload_n hx hb dX12_onBits_4 rfl (lv_at hl 0 rfl) ?_
      refine lv_aload_n hx hb dX12_onBits_5 rfl (lv_at hl 2 rfl) ?_
      refine va_get (D := D) (ci := 12) (v := .ref m_s) (C := RX12) (T := TX12) (N := 35) hx hb hts inlX12 hown hK hP 0 rfl rfl 1 (by decide) (hts (Cond.fieldLink RX12 13 "ChanceRingsModel" "s" "[I") qw_73) (fun _ h9 => h9) rfl dX12_onBits_6 ?_
      refine lv_bipush (v := 25) hx hb dX12_onBits_9 (by decide) ?_
      refine lv_iload_n hx hb dX12_onBits_11 rfl (lv_at hl 3 rfl) ?_
      refine lv_iadd hx hb dX12_onBits_12 ?_
      refine lv_topi (fun v_7455 v_7455_e => ?_)
      have h_v_7455 : 25 ≤ (v_7455 : Int32).toInt ∧ (v_7455 : Int32).toInt ≤ 36 := by rw [v_7455_e]; exact tr_add (⟨by decide, by decide⟩ : 25 ≤ (25 : Int32).toInt ∧ (25 : Int32).toInt ≤ 25) h_p0 (by decide) (by decide) (by decide) (by decide)
      have q_v_7455 : v_7455.toInt = 25 + p0.toInt := by rw [v_7455_e]; exact (tr_addX (⟨by decide, by decide⟩ : 25 ≤ (25 : Int32).toInt ∧ (25 : Int32).toInt ≤ 25) h_p0 (by decide) (by decide)).trans (by rw [tk_25])
      refine va_iald hx hb hK hP 1 0 rfl rfl (tr_in h_v_7455 (by decide) (by decide)) dX12_onBits_13 ?_
      refine lv_topi (fun v_7456 v_7456_e => ?_)
      have h_v_7456 : 0 ≤ (v_7456 : Int32).toInt ∧ (v_7456 : Int32).toInt ≤ 3 := by rw [v_7456_e]; exact gr_ways hG.r (tr_w h_v_7455 (by decide) (by decide))
      have g_v_7456 : v_7456 = sf (25 + p0.toInt.toNat) := v_7456_e.trans (congrArg sf (by show Int.toNat _ = _; (first | (clear h_i_undoMany h_i_length h_i_size h_i_p h_i_at h_i_token h_i_number h_i_letterMany h_i_faultAt h_i_isKnown h_i_toldMany h_x_7452 h_x_7453; omega) | omega)))
      have gi_v_7456 := congrArg Int32.toInt g_v_7456
      refine lv_icmp_ge (tgt := 53) hx hb dX12_onBits_14 (by decide) (fun c_7457 => ?_) (fun c_7457 => ?_)
      · skip
        have c_7457_i := Int32.le_iff_toInt_le.mp c_7457
        refine lv_iload_n hx hb dX12_onBits_53 rfl (lv_at hl 1 rfl) ?_
        exact W.iret (v := x_7452) hx hb hr (fun t ht hW => ⟨x_7452, rfl, ⟨(tr_w h_x_7452 (by decide) (by decide)), (on_done hr7454_0 (by (first | (clear h_p0 h_i_undoMany h_i_length h_i_size h_i_p h_i_at h_i_token h_i_number h_i_letterMany h_i_faultAt h_i_isKnown h_i_toldMany h_x_7453 h_v_7455 q_v_7455 h_v_7456 g_v_7456 gi_v_7456 c_7457_i; omega) | omega)))⟩, ht⟩) (fun _ h => nomatch h) dX12_onBits_54
      · skip
        have c_7457_i := Int32.lt_iff_toInt_lt.mp (Int32.not_le.mp c_7457)
        have h_7458 : 0 ≤ (x_7453 : Int32).toInt ∧ (x_7453 : Int32).toInt ≤ 2 := nr_lt_l h_x_7453 h_v_7456 c_7457_i (by decide) (by decide)
        have h_7459 : 1 ≤ (v_7456 : Int32).toInt ∧ (v_7456 : Int32).toInt ≤ 3 := nr_lt_r h_x_7453 h_v_7456 c_7457_i (by decide) (by decide)
        refine lv_aload_n hx hb dX12_onBits_17 rfl (lv_at hl 2 rfl) ?_
        refine lv_iload_n hx hb dX12_onBits_18 rfl (lv_at hl 3 rfl) ?_
        refine lv_iconst (v := 3) hx hb dX12_onBits_19 (by decide) ?_
        have hPc := hP.sub (ws' := [(mm, .inr (12, (.int i_thrown :: .ref m_s :: .ref m_spare :: .ref m_kept :: .ref m_undone :: .ref m_triedWay :: .ref m_isKept :: .int i_undoMany :: .ref m_tape :: .int i_length :: .int i_size :: .int i_p :: .int i_at :: .int i_token :: .int i_number :: .int i_letterMany :: .int i_fault :: .int i_faultAt :: .ref m_letters :: .int i_isKnown :: .ref m_choice :: .ref m_row :: .ref m_up :: .ref m_low :: .ref m_m :: .ref m_bestUp :: .ref m_bestLow :: .ref m_replyUp :: .ref m_replyLow :: .ref m_worthUp :: .ref m_worthLow :: .ref m_bestWay :: .int i_seed :: .ref m_told :: .int i_toldMany :: []))), (m_s, .inl (g 0, 193, .inl sf))]) [0, 1] rfl
        refine vp_callSi (va_Run.run (va_runV (As := [.int p0, .int 3]) (rest := []) ⟨hx, hb, hml, hown, hts⟩ (c_X12_isKind l D g mm p0 3 i_thrown m_s m_spare m_kept m_undone m_triedWay m_isKept i_undoMany m_tape i_length i_size i_p i_at i_token i_number i_letterMany i_fault i_faultAt m_letters i_isKnown m_choice m_row m_up m_low m_m m_bestUp m_bestLow m_replyUp m_replyLow m_worthUp m_worthLow m_bestWay i_seed m_told i_toldMany sf (tr_w h_p0 (by decide) (by decide)) (tr_w h_i_undoMany (by decide) (by decide)) (tr_w h_i_length (by decide) (by decide)) (tr_w h_i_size (by decide) (by decide)) (tr_w h_i_p (by decide) (by decide)) (tr_w h_i_at (by decide) (by decide)) (tr_w h_i_token (by decide) (by decide)) (tr_w h_i_number (by decide) (by decide)) (tr_w h_i_letterMany (by decide) (by decide)) (tr_w h_i_faultAt (by decide) (by decide)) (tr_w h_i_isKnown (by decide) (by decide)) (tr_w h_i_toldMany (by decide) (by decide)) hG) (cwV 2 hts (tz_gV qw_94 qw_95 qw_96 qw_3 qw_97) rfl rfl rfl (by decide +kernel) ⟨Nat.le_of_ble_eq_true rfl, Nat.le_of_ble_eq_true rfl⟩) ⟨tz_blS, va_recv hK hPc (ci := 12) (q0 := 0) rfl rfl, tz_preS hPc hK⟩ rfl rfl hl.1 rfl (lv_room (Nat.le_of_ble_eq_true rfl)) dX12_onBits_20 ⟨Nat.le_of_ble_eq_true rfl, Nat.le_of_ble_eq_true rfl⟩)) (fun r_7460 hw => ?_)
        have kk_3 := tk_3
        have hw_7461 : 0 ≤ (r_7460 : Int32).toInt ∧ (r_7460 : Int32).toInt ≤ 1 := hw.1
        have hw_7461_p0 : Hide (¬ (r_7460 : Int32).toInt = 0 → (sf (1 + (p0 : Int32).toInt.toNat)).toInt = (3 : Int32).toInt) := hw.2.1
        have hw_7461_p1 : Hide ((r_7460 : Int32).toInt = 0 → ¬ (sf (1 + (p0 : Int32).toInt.toNat)).toInt = (3 : Int32).toInt) := hw.2.2
        refine lv_if_ne (tgt := 36) hx hb dX12_onBits_23 (by decide) (fun c_7462 => ?_) (fun c_7462 => ?_)
        · skip
          have kk_0 := tk_0
          have c_7462_i : ¬ (r_7460 : Int32).toInt = (0 : Int32).toInt := (fun q => c_7462 (Int32.toInt_inj.mp q))
          have hw_7461_p0_u := (hw_7461_p0).get (fun q => c_7462_i (q.trans tk_0.symm))
          have h_7463 : 1 ≤ (r_7460 : Int32).toInt ∧ (r_7460 : Int32).toInt ≤ 1 := nr_ne_l hw_7461 (⟨by decide, by decide⟩ : 0 ≤ (0 : Int32).toInt ∧ (0 : Int32).toInt ≤ 0) c_7462_i (by decide) (by decide)
          refine lv_iload_n hx hb dX12_onBits_36 rfl (lv_at hl 1 rfl) ?_
          refine lv_iconst (v := 1) hx hb dX12_onBits_37 (by decide) ?_
          refine lv_aload_n hx hb dX12_onBits_38 rfl (lv_at hl 2 rfl) ?_
          refine lv_iload_n hx hb dX12_onBits_39 rfl (lv_at hl 3 rfl) ?_
          refine lv_iload_n hx hb dX12_onBits_40 rfl (lv_at hl 0 rfl) ?_
          have hPc := hP.sub (ws' := [(mm, .inr (12, (.int i_thrown :: .ref m_s :: .ref m_spare :: .ref m_kept :: .ref m_undone :: .ref m_triedWay :: .ref m_isKept :: .int i_undoMany :: .ref m_tape :: .int i_length :: .int i_size :: .int i_p :: .int i_at :: .int i_token :: .int i_number :: .int i_letterMany :: .int i_fault :: .int i_faultAt :: .ref m_letters :: .int i_isKnown :: .ref m_choice :: .ref m_row :: .ref m_up :: .ref m_low :: .ref m_m :: .ref m_bestUp :: .ref m_bestLow :: .ref m_replyUp :: .ref m_replyLow :: .ref m_worthUp :: .ref m_worthLow :: .ref m_bestWay :: .int i_seed :: .ref m_told :: .int i_toldMany :: []))), (m_s, .inl (g 0, 193, .inl sf))]) [0, 1] rfl
          refine vp_callSi (va_Run.run (va_runV (As := [.int p0, .int x_7453]) (rest := [.int 1, .int x_7452]) ⟨hx, hb, hml, hown, hts⟩ (c_X12_to l D g mm p0 x_7453 i_thrown m_s m_spare m_kept m_undone m_triedWay m_isKept i_undoMany m_tape i_length i_size i_p i_at i_token i_number i_letterMany i_fault i_faultAt m_letters i_isKnown m_choice m_row m_up m_low m_m m_bestUp m_bestLow m_replyUp m_replyLow m_worthUp m_worthLow m_bestWay i_seed m_told i_toldMany sf (tr_w h_p0 (by decide) (by decide)) (tr_w h_7458 (by decide) (by decide)) (tr_w h_i_undoMany (by decide) (by decide)) (tr_w h_i_length (by decide) (by decide)) (tr_w h_i_size (by decide) (by decide)) (tr_w h_i_p (by decide) (by decide)) (tr_w h_i_at (by decide) (by decide)) (tr_w h_i_token (by decide) (by decide)) (tr_w h_i_number (by decide) (by decide)) (tr_w h_i_letterMany (by decide) (by decide)) (tr_w h_i_faultAt (by decide) (by decide)) (tr_w h_i_isKnown (by decide) (by decide)) (tr_w h_i_toldMany (by decide) (by decide)) hG) (cwV 2 hts (tz_gV qw_121 qw_122 qw_123 qw_3 qw_124) rfl rfl rfl (by decide +kernel) ⟨Nat.le_of_ble_eq_true rfl, Nat.le_of_ble_eq_true rfl⟩) ⟨tz_blS, va_recv hK hPc (ci := 12) (q0 := 0) rfl rfl, tz_preS hPc hK⟩ rfl rfl hl.1 rfl (lv_room (Nat.le_of_ble_eq_true rfl)) dX12_onBits_41 ⟨Nat.le_of_ble_eq_true rfl, Nat.le_of_ble_eq_true rfl⟩)) (fun r_7465 hw => ?_)
          have hw_7466 : 0 ≤ (r_7465 : Int32).toInt ∧ (r_7465 : Int32).toInt ≤ 11 := hw.1
          have hw_7466_p0 : (r_7465 : Int32) = sf (37 + 3 * (p0 : Int32).toInt.toNat + (x_7453 : Int32).toInt.toNat) := hw.2
          refine lv_ishl hx hb dX12_onBits_44 ?_
          refine lv_topi (fun v_7467 v_7467_e => ?_)
          have h_v_7467 : 0 ≤ (v_7467 : Int32).toInt ∧ (v_7467 : Int32).toInt ≤ 4095 := by rw [v_7467_e]; exact tr_shl12 (tr_w hw_7466 (by decide) (by decide))
          refine lv_ior hx hb dX12_onBits_45 ?_
          refine lv_topi (fun v_7468 v_7468_e => ?_)
          have h_v_7468 : 0 ≤ (v_7468 : Int32).toInt ∧ (v_7468 : Int32).toInt ≤ 4095 := by rw [v_7468_e]; exact (tr_or12 (tr_w h_x_7452 (by decide) (by decide)) (tr_w h_v_7467 (by decide) (by decide))).1
          have o_v_7468 : (x_7452 : Int32).toInt ≤ (v_7468 : Int32).toInt := by rw [v_7468_e]; exact (tr_or12 (tr_w h_x_7452 (by decide) (by decide)) (tr_w h_v_7467 (by decide) (by decide))).2
          refine lv_istore_n (lv' := [(2, .int v_7468), (3, .int x_7453), (0, .ref mm), (1, .int p0)]) hx hb dX12_onBits_46 rfl hl (by decide) rfl (fun ls hl => ?_)
          obtain ⟨v_7469, v_7469_e⟩ : ∃ y : Int32, y = x_7453 + Int32.ofInt 1 := ⟨_, rfl⟩
          have h_v_7469 : 1 ≤ (v_7469 : Int32).toInt ∧ (v_7469 : Int32).toInt ≤ 3 := by rw [v_7469_e]; exact tr_add h_7458 (⟨by decide, by decide⟩ : 1 ≤ (Int32.ofInt 1 : Int32).toInt ∧ (Int32.ofInt 1 : Int32).toInt ≤ 1) (by decide) (by decide) (by decide) (by decide)
          have q_v_7469 : v_7469.toInt = x_7453.toInt + 1 := by rw [v_7469_e]; exact tr_addE h_7458 (⟨by decide, by decide⟩ : 1 ≤ (Int32.ofInt 1 : Int32).toInt ∧ (Int32.ofInt 1 : Int32).toInt ≤ 1) (by decide) (by decide)
          refine lv_iinc (v := v_7469) (lv' := [(3, .int v_7469), (2, .int v_7468), (0, .ref mm), (1, .int p0)]) hx hb dX12_onBits_47 hl (k := 1) rfl v_7469_e.symm (by decide) rfl (fun ls hl => ?_)
          refine lv_goto (tgt := 4) hx hb dX12_onBits_50 (by decide) ?_
          exact ih_7454 v_7468 v_7469 ls (tr_w h_v_7468 (by decide) (by decide)) (tr_w h_v_7469 (by decide) (by decide)) (on_add (t := r_7465) hr7454_0 h_x_7452 hw_7466 v_7467_e v_7468_e (by have z3 := tk_3; (first | (clear h_i_undoMany h_i_length h_i_size h_i_p h_i_at h_i_token h_i_number h_i_letterMany h_i_faultAt h_i_isKnown h_i_toldMany hw_7461 c_7462_i h_7463 h_v_7467; omega) | omega)) hw_7466_p0 (by (first | (clear h_i_undoMany h_i_length h_i_size h_i_p h_i_at h_i_token h_i_number h_i_letterMany h_i_faultAt h_i_isKnown h_i_toldMany hw_7461 c_7462_i h_7463 h_v_7467; omega) | omega))) (by have z_0 := tk_0; have q9 := (hG.r.2.1 (p0 : Int32).toInt.toNat (by (first | (clear h_i_undoMany h_i_length h_i_size h_i_p h_i_at h_i_token h_i_number h_i_letterMany h_i_faultAt h_i_isKnown h_i_toldMany hw_7461 c_7462_i h_7463 h_v_7467; omega) | omega))).2.2.1; (first | (clear h_i_undoMany h_i_length h_i_size h_i_p h_i_at h_i_token h_i_number h_i_letterMany h_i_faultAt h_i_isKnown h_i_toldMany hw_7461 c_7462_i h_7463 h_v_7467; omega) | omega)) (by (first | (clear h_i_undoMany h_i_length h_i_size h_i_p h_i_at h_i_token h_i_number h_i_letterMany h_i_faultAt h_i_isKnown h_i_toldMany hw_7461 c_7462_i h_7463 h_v_7467; omega) | omega)) (lv_sub hl [0, 1, 2, 3] rfl)
        · skip
          have kk_0 := tk_0
          have c_7462_i : (r_7460 : Int32).toInt = (0 : Int32).toInt := congrArg Int32.toInt c_7462
          have hw_7461_p1_u := (hw_7461_p1).get (c_7462_i.trans tk_0)
          have h_7464 : 0 ≤ (r_7460 : Int32).toInt ∧ (r_7460 : Int32).toInt ≤ 0 := nr_eq_l hw_7461 (⟨by decide, by decide⟩ : 0 ≤ (0 : Int32).toInt ∧ (0 : Int32).toInt ≤ 0) c_7462_i (by decide) (by decide)
          refine lv_aload_n hx hb dX12_onBits_26 rfl (lv_at hl 2 rfl) ?_
          refine va_get (D := D) (ci := 12) (v := .ref m_choice) (C := RX12) (T := TX12) (N := 35) hx hb hts inlX12 hown hK hP 0 rfl rfl 20 (by decide) (hts (Cond.fieldLink RX12 40 "ChanceRingsModel" "choice" "[I") qw_125) (fun _ h9 => h9) rfl dX12_onBits_27 ?_
          refine lv_iload_n hx hb dX12_onBits_30 rfl (lv_at hl 3 rfl) ?_
          refine va_iald hx hb hK hP 2 0 rfl rfl (tr_in h_p0 (by decide) (by decide)) dX12_onBits_31 ?_
          refine lv_topi (fun v_7470 v_7470_e => ?_)
          have h_v_7470 : 0 ≤ (v_7470 : Int32).toInt ∧ (v_7470 : Int32).toInt ≤ 2 := by rw [v_7470_e]; exact h_chf _
          have g_v_7470 : v_7470 = chf (p0.toInt.toNat) := v_7470_e.trans (congrArg chf rfl)
          have gi_v_7470 := congrArg Int32.toInt g_v_7470
          refine lv_iload_n hx hb dX12_onBits_32 rfl (lv_at hl 0 rfl) ?_
          refine lv_icmp_ne (tgt := 47) hx hb dX12_onBits_33 (by decide) (fun c_7471 => ?_) (fun c_7471 => ?_)
          · skip
            have c_7471_i : ¬ (v_7470 : Int32).toInt = (x_7453 : Int32).toInt := (fun q => c_7471 (Int32.toInt_inj.mp q))
            obtain ⟨v_7472, v_7472_e⟩ : ∃ y : Int32, y = x_7453 + Int32.ofInt 1 := ⟨_, rfl⟩
            have h_v_7472 : 1 ≤ (v_7472 : Int32).toInt ∧ (v_7472 : Int32).toInt ≤ 3 := by rw [v_7472_e]; exact tr_add h_7458 (⟨by decide, by decide⟩ : 1 ≤ (Int32.ofInt 1 : Int32).toInt ∧ (Int32.ofInt 1 : Int32).toInt ≤ 1) (by decide) (by decide) (by decide) (by decide)
            have q_v_7472 : v_7472.toInt = x_7453.toInt + 1 := by rw [v_7472_e]; exact tr_addE h_7458 (⟨by decide, by decide⟩ : 1 ≤ (Int32.ofInt 1 : Int32).toInt ∧ (Int32.ofInt 1 : Int32).toInt ≤ 1) (by decide) (by decide)
            refine lv_iinc (v := v_7472) (lv' := [(3, .int v_7472), (2, .int x_7452), (0, .ref mm), (1, .int p0)]) hx hb dX12_onBits_47 hl (k := 0) rfl v_7472_e.symm (by decide) rfl (fun ls hl => ?_)
            refine lv_goto (tgt := 4) hx hb dX12_onBits_50 (by decide) ?_
            exact ih_7454 x_7452 v_7472 ls (tr_w h_x_7452 (by decide) (by decide)) (tr_w h_v_7472 (by decide) (by decide)) (on_skip hr7454_0 (by have z3 := tk_3; (first | (clear h_i_undoMany h_i_length h_i_size h_i_p h_i_at h_i_token h_i_number h_i_letterMany h_i_faultAt h_i_isKnown h_i_toldMany hw_7461 c_7462_i h_7464; omega) | omega)) (by (first | (clear h_i_undoMany h_i_length h_i_size h_i_p h_i_at h_i_token h_i_number h_i_letterMany h_i_faultAt h_i_isKnown h_i_toldMany hw_7461 c_7462_i h_7464; omega) | omega))) (by have z_0 := tk_0; have q9 := (hG.r.2.1 (p0 : Int32).toInt.toNat (by (first | (clear h_i_undoMany h_i_length h_i_size h_i_p h_i_at h_i_token h_i_number h_i_letterMany h_i_faultAt h_i_isKnown h_i_toldMany hw_7461 c_7462_i h_7464; omega) | omega))).2.2.1; (first | (clear h_i_undoMany h_i_length h_i_size h_i_p h_i_at h_i_token h_i_number h_i_letterMany h_i_faultAt h_i_isKnown h_i_toldMany hw_7461 c_7462_i h_7464; omega) | omega)) (by (first | (clear h_i_undoMany h_i_length h_i_size h_i_p h_i_at h_i_token h_i_number h_i_letterMany h_i_faultAt h_i_isKnown h_i_toldMany hw_7461 c_7462_i h_7464; omega) | omega)) (lv_sub hl [0, 1, 2, 3] rfl)
          · skip
            have c_7471_i : (v_7470 : Int32).toInt = (x_7453 : Int32).toInt := congrArg Int32.toInt c_7471
            refine lv_iload_n hx hb dX12_onBits_36 rfl (lv_at hl 1 rfl) ?_
            refine lv_iconst (v := 1) hx hb dX12_onBits_37 (by decide) ?_
            refine lv_aload_n hx hb dX12_onBits_38 rfl (lv_at hl 2 rfl) ?_
            refine lv_iload_n hx hb dX12_onBits_39 rfl (lv_at hl 3 rfl) ?_
            refine lv_iload_n hx hb dX12_onBits_40 rfl (lv_at hl 0 rfl) ?_
            have hPc := hP.sub (ws' := [(mm, .inr (12, (.int i_thrown :: .ref m_s :: .ref m_spare :: .ref m_kept :: .ref m_undone :: .ref m_triedWay :: .ref m_isKept :: .int i_undoMany :: .ref m_tape :: .int i_length :: .int i_size :: .int i_p :: .int i_at :: .int i_token :: .int i_number :: .int i_letterMany :: .int i_fault :: .int i_faultAt :: .ref m_letters :: .int i_isKnown :: .ref m_choice :: .ref m_row :: .ref m_up :: .ref m_low :: .ref m_m :: .ref m_bestUp :: .ref m_bestLow :: .ref m_replyUp :: .ref m_replyLow :: .ref m_worthUp :: .ref m_worthLow :: .ref m_bestWay :: .int i_seed :: .ref m_told :: .int i_toldMany :: []))), (m_s, .inl (g 0, 193, .inl sf))]) [0, 1] rfl
            refine vp_callSi (va_Run.run (va_runV (As := [.int p0, .int x_7453]) (rest := [.int 1, .int x_7452]) ⟨hx, hb, hml, hown, hts⟩ (c_X12_to l D g mm p0 x_7453 i_thrown m_s m_spare m_kept m_undone m_triedWay m_isKept i_undoMany m_tape i_length i_size i_p i_at i_token i_number i_letterMany i_fault i_faultAt m_letters i_isKnown m_choice m_row m_up m_low m_m m_bestUp m_bestLow m_replyUp m_replyLow m_worthUp m_worthLow m_bestWay i_seed m_told i_toldMany sf (tr_w h_p0 (by decide) (by decide)) (tr_w h_7458 (by decide) (by decide)) (tr_w h_i_undoMany (by decide) (by decide)) (tr_w h_i_length (by decide) (by decide)) (tr_w h_i_size (by decide) (by decide)) (tr_w h_i_p (by decide) (by decide)) (tr_w h_i_at (by decide) (by decide)) (tr_w h_i_token (by decide) (by decide)) (tr_w h_i_number (by decide) (by decide)) (tr_w h_i_letterMany (by decide) (by decide)) (tr_w h_i_faultAt (by decide) (by decide)) (tr_w h_i_isKnown (by decide) (by decide)) (tr_w h_i_toldMany (by decide) (by decide)) hG) (cwV 2 hts (tz_gV qw_121 qw_122 qw_123 qw_3 qw_124) rfl rfl rfl (by decide +kernel) ⟨Nat.le_of_ble_eq_true rfl, Nat.le_of_ble_eq_true rfl⟩) ⟨tz_blS, va_recv hK hPc (ci := 12) (q0 := 0) rfl rfl, tz_preS hPc hK⟩ rfl rfl hl.1 rfl (lv_room (Nat.le_of_ble_eq_true rfl)) dX12_onBits_41 ⟨Nat.le_of_ble_eq_true rfl, Nat.le_of_ble_eq_true rfl⟩)) (fun r_7473 hw => ?_)
            have hw_7474 : 0 ≤ (r_7473 : Int32).toInt ∧ (r_7473 : Int32).toInt ≤ 11 := hw.1
            have hw_7474_p0 : (r_7473 : Int32) = sf (37 + 3 * (p0 : Int32).toInt.toNat + (x_7453 : Int32).toInt.toNat) := hw.2
            refine lv_ishl hx hb dX12_onBits_44 ?_
            refine lv_topi (fun v_7475 v_7475_e => ?_)
            have h_v_7475 : 0 ≤ (v_7475 : Int32).toInt ∧ (v_7475 : Int32).toInt ≤ 4095 := by rw [v_7475_e]; exact tr_shl12 (tr_w hw_7474 (by decide) (by decide))
            refine lv_ior hx hb dX12_onBits_45 ?_
            refine lv_topi (fun v_7476 v_7476_e => ?_)
            have h_v_7476 : 0 ≤ (v_7476 : Int32).toInt ∧ (v_7476 : Int32).toInt ≤ 4095 := by rw [v_7476_e]; exact (tr_or12 (tr_w h_x_7452 (by decide) (by decide)) (tr_w h_v_7475 (by decide) (by decide))).1
            have o_v_7476 : (x_7452 : Int32).toInt ≤ (v_7476 : Int32).toInt := by rw [v_7476_e]; exact (tr_or12 (tr_w h_x_7452 (by decide) (by decide)) (tr_w h_v_7475 (by decide) (by decide))).2
            refine lv_istore_n (lv' := [(2, .int v_7476), (3, .int x_7453), (0, .ref mm), (1, .int p0)]) hx hb dX12_onBits_46 rfl hl (by decide) rfl (fun ls hl => ?_)
            obtain ⟨v_7477, v_7477_e⟩ : ∃ y : Int32, y = x_7453 + Int32.ofInt 1 := ⟨_, rfl⟩
            have h_v_7477 : 1 ≤ (v_7477 : Int32).toInt ∧ (v_7477 : Int32).toInt ≤ 3 := by rw [v_7477_e]; exact tr_add h_7458 (⟨by decide, by decide⟩ : 1 ≤ (Int32.ofInt 1 : Int32).toInt ∧ (Int32.ofInt 1 : Int32).toInt ≤ 1) (by decide) (by decide) (by decide) (by decide)
            have q_v_7477 : v_7477.toInt = x_7453.toInt + 1 := by rw [v_7477_e]; exact tr_addE h_7458 (⟨by decide, by decide⟩ : 1 ≤ (Int32.ofInt 1 : Int32).toInt ∧ (Int32.ofInt 1 : Int32).toInt ≤ 1) (by decide) (by decide)
            refine lv_iinc (v := v_7477) (lv' := [(3, .int v_7477), (2, .int v_7476), (0, .ref mm), (1, .int p0)]) hx hb dX12_onBits_47 hl (k := 1) rfl v_7477_e.symm (by decide) rfl (fun ls hl => ?_)
            refine lv_goto (tgt := 4) hx hb dX12_onBits_50 (by decide) ?_
            exact ih_7454 v_7476 v_7477 ls (tr_w h_v_7476 (by decide) (by decide)) (tr_w h_v_7477 (by decide) (by decide)) (on_add (t := r_7473) hr7454_0 h_x_7452 hw_7474 v_7475_e v_7476_e (by have z3 := tk_3; (first | (clear h_i_undoMany h_i_length h_i_size h_i_p h_i_at h_i_token h_i_number h_i_letterMany h_i_faultAt h_i_isKnown h_i_toldMany hw_7461 c_7462_i h_7464 h_v_7475; omega) | omega)) hw_7474_p0 (by (first | (clear h_i_undoMany h_i_length h_i_size h_i_p h_i_at h_i_token h_i_number h_i_letterMany h_i_faultAt h_i_isKnown h_i_toldMany hw_7461 c_7462_i h_7464 h_v_7475; omega) | omega))) (by have z_0 := tk_0; have q9 := (hG.r.2.1 (p0 : Int32).toInt.toNat (by (first | (clear h_i_undoMany h_i_length h_i_size h_i_p h_i_at h_i_token h_i_number h_i_letterMany h_i_faultAt h_i_isKnown h_i_toldMany hw_7461 c_7462_i h_7464 h_v_7475; omega) | omega))).2.2.1; (first | (clear h_i_undoMany h_i_length h_i_size h_i_p h_i_at h_i_token h_i_number h_i_letterMany h_i_faultAt h_i_isKnown h_i_toldMany hw_7461 c_7462_i h_7464 h_v_7475; omega) | omega)) (by (first | (clear h_i_undoMany h_i_length h_i_size h_i_p h_i_at h_i_token h_i_number h_i_letterMany h_i_faultAt h_i_isKnown h_i_toldMany hw_7461 c_7462_i h_7464 h_v_7475; omega) | omega)) (lv_sub hl [0, 1, 2, 3] rfl)
  exact lp_7454 4 0 0 ls (⟨by decide, by decide⟩ : 0 ≤ (0 : Int32).toInt ∧ (0 : Int32).toInt ≤ 4095) (⟨by decide, by decide⟩ : 0 ≤ (0 : Int32).toInt ∧ (0 : Int32).toInt ≤ 3) on_zero (by have z_0 := tk_0; have q9 := (hG.r.2.1 (p0 : Int32).toInt.toNat (by (first | (clear h_i_undoMany h_i_length h_i_size h_i_p h_i_at h_i_token h_i_number h_i_letterMany h_i_faultAt h_i_isKnown h_i_toldMany; omega) | omega))).2.2.1; (first | (clear h_i_undoMany h_i_length h_i_size h_i_p h_i_at h_i_token h_i_number h_i_letterMany h_i_faultAt h_i_isKnown h_i_toldMany; omega) | omega)) (by decide) (lv_sub hl [0, 1, 2, 3] rfl)
set_option maxHeartbeats 4000000 in
set_option maxRecDepth 100000 in
theorem c_X12_ends (l : Launch) (D : va_G) (g : Nat → ClassId) (mm : Nat) (i_thrown : Int32) (m_s : Nat) (m_spare : Nat) (m_kept : Nat) (m_undone : Nat) (m_triedWay : Nat) (m_isKept : Nat) (i_undoMany : Int32) (m_tape : Nat) (i_length : Int32) (i_size : Int32) (i_p : Int32) (i_at : Int32) (i_token : Int32) (i_number : Int32) (i_letterMany : Int32) (i_fault : Int32) (i_faultAt : Int32) (m_letters : Nat) (i_isKnown : Int32) (m_choice : Nat) (m_row : Nat) (m_up : Nat) (m_low : Nat) (m_m : Nat) (m_bestUp : Nat) (m_bestLow : Nat) (m_replyUp : Nat) (m_replyLow : Nat) (m_worthUp : Nat) (m_worthLow : Nat) (m_bestWay : Nat) (i_seed : Int32) (m_told : Nat) (i_toldMany : Int32) (sf : Nat → Int32) (h_i_undoMany : 0 ≤ (i_undoMany : Int32).toInt ∧ (i_undoMany : Int32).toInt ≤ 8) (h_i_length : 0 ≤ (i_length : Int32).toInt ∧ (i_length : Int32).toInt ≤ 440) (h_i_size : 0 ≤ (i_size : Int32).toInt ∧ (i_size : Int32).toInt ≤ 440) (h_i_p : 0 ≤ (i_p : Int32).toInt ∧ (i_p : Int32).toInt ≤ 440) (h_i_at : 0 ≤ (i_at : Int32).toInt ∧ (i_at : Int32).toInt ≤ 440) (h_i_token : 0 ≤ (i_token : Int32).toInt ∧ (i_token : Int32).toInt ≤ 4) (h_i_number : 0 ≤ (i_number : Int32).toInt ∧ (i_number : Int32).toInt ≤ 814) (h_i_letterMany : (-440) ≤ (i_letterMany : Int32).toInt ∧ (i_letterMany : Int32).toInt ≤ 440) (h_i_faultAt : 0 ≤ (i_faultAt : Int32).toInt ∧ (i_faultAt : Int32).toInt ≤ 440) (h_i_isKnown : 0 ≤ (i_isKnown : Int32).toInt ∧ (i_isKnown : Int32).toInt ≤ 1) (h_i_toldMany : 0 ≤ (i_toldMany : Int32).toInt ∧ (i_toldMany : Int32).toInt ≤ 900) (hG : GS sf) : Met l yX12_ends (.code yX12_ends cX12_ends 3 (some .int) :: wsL_law) ({ frames := 1, cells := 0, slots := 0, locals := 22 }) (va_Pc [.ref mm] (fun U => va_P D vwCl [(mm, .inr (12, (.int i_thrown :: .ref m_s :: .ref m_spare :: .ref m_kept :: .ref m_undone :: .ref m_triedWay :: .ref m_isKept :: .int i_undoMany :: .ref m_tape :: .int i_length :: .int i_size :: .int i_p :: .int i_at :: .int i_token :: .int i_number :: .int i_letterMany :: .int i_fault :: .int i_faultAt :: .ref m_letters :: .int i_isKnown :: .ref m_choice :: .ref m_row :: .ref m_up :: .ref m_low :: .ref m_m :: .ref m_bestUp :: .ref m_bestLow :: .ref m_replyUp :: .ref m_replyLow :: .ref m_worthUp :: .ref m_worthLow :: .ref m_bestWay :: .int i_seed :: .ref m_told :: .int i_toldMany :: []))), (m_s, .inl (g 0, 193, .inl sf))] U.heap ∧ va_K D vwCl (TY g) U)) (vp_Si (fun r => (0 ≤ (r : Int32).toInt ∧ (r : Int32).toInt ≤ 4095) ∧ (∀ j : Nat, bt r j ↔ (j < (sf 0).toInt.toNat ∧ (sf (1 + j)).toInt = 0)))) 0 0 (fun _ => False) := by
  refine Met.ofW (cc := cX12_ends) (maxL := 3) (ret := (some .int)) (by decide) rfl ?_
  intro p e s m args below meth c s₁ B hml hv
  obtain ⟨ha, hP, hK⟩ := hv
  have hx := B.exec
  have hb := B.bytes
  have hr := B.returns
  have hts0 := atoms_spec (ws := (.code yX12_ends cX12_ends 3 (some .int) :: wsL_law)) B.pre
  have hts : ∀ w ∈ wsL_law, w.before args s = true := fun w h => hts0 w (List.mem_cons_of_mem _ h)
  have hown : s.vm.findClass RX12 = some m.cls := findClass_of_methodNamed B.named
  have hlocks := B.notSynchronized
  have hP : va_P D vwCl [(mm, .inr (12, (.int i_thrown :: .ref m_s :: .ref m_spare :: .ref m_kept :: .ref m_undone :: .ref m_triedWay :: .ref m_isKept :: .int i_undoMany :: .ref m_tape :: .int i_length :: .int i_size :: .int i_p :: .int i_at :: .int i_token :: .int i_number :: .int i_letterMany :: .int i_fault :: .int i_faultAt :: .ref m_letters :: .int i_isKnown :: .ref m_choice :: .ref m_row :: .ref m_up :: .ref m_low :: .ref m_m :: .ref m_bestUp :: .ref m_bestLow :: .ref m_replyUp :: .ref m_replyLow :: .ref m_worthUp :: .ref m_worthLow :: .ref m_bestWay :: .int i_seed :: .ref m_told :: .int i_toldMany :: []))), (m_s, .inl (g 0, 193, .inl sf))] s.heap := hP
  refine W.eq (g2 := entryFrame m ([.ref mm] : List Value).toArray 3) (by rw [ha]) ?_
  have hl := lv_entry ([.ref mm]) (n := 3) (Nat.le_of_ble_eq_true rfl)
  rw [lg_entry_eq]
  generalize (lg_sl ([.ref mm]) ++ List.replicate (3 - (lg_sl ([.ref mm])).length) Slot.unset).toArray = ls at hl ⊢
  have hl : lv_has ls 3 [(0, .ref mm)] := hl
  have gn9 := hG.r.1
  refine lv_iconst (v := 0) hx hb dX12_ends_0 (by decide) ?_
  refine lv_istore_n (lv' := [(1, .int 0), (0, .ref mm)]) hx hb dX12_ends_1 rfl hl (by decide) rfl (fun ls hl => ?_)
  refine lv_iconst (v := 0) hx hb dX12_ends_2 (by decide) ?_
  refine lv_istore_n (lv' := [(2, .int 0), (1, .int 0), (0, .ref mm)]) hx hb dX12_ends_3 rfl hl (by decide) rfl (fun ls hl => ?_)
  have lp_7496 : ∀ (n_7496 : Nat) (x_7494 : Int32) (x_7495 : Int32) (ls : Array Slot), (0 ≤ (x_7494 : Int32).toInt ∧ (x_7494 : Int32).toInt ≤ 4095) → (0 ≤ (x_7495 : Int32).toInt ∧ (x_7495 : Int32).toInt ≤ 12) → (∀ j : Nat, bt x_7494 j ↔ (j < x_7495.toInt.toNat ∧ (sf (1 + j)).toInt = 0)) → (x_7495.toInt ≤ (sf 0).toInt) → (12 - x_7495.toInt < (n_7496 : Int)) → lv_has ls 3 [(2, .int x_7495), (1, .int x_7494), (0, .ref mm)] → W p l e (headSpec (.code yX12_ends cX12_ends 3 (some .int) :: wsL_law) ({ frames := 1, cells := 0, slots := 0, locals := 22 })).room s m args below meth c s.heap [] 0 0 (MQ below (vp_Si (fun r => (0 ≤ (r : Int32).toInt ∧ (r : Int32).toInt ≤ 4095) ∧ (∀ j : Nat, bt r j ↔ (j < (sf 0).toInt.toNat ∧ (sf (1 + j)).toInt = 0)))) args s 0 0 (fun _ => False)) (F0 m 4 ls []) := by
    intro n_7496
    induction n_7496 with
    | zero =>
      intro x_7494 x_7495 ls h_x_7494 h_x_7495 hr7496_0 hr7496_1 hm_7496 hl
      exfalso; omega
    | succ n_7496 ih_7496 =>
      intro x_7494 x_7495 ls h_x_7494 h_x_7495 hr7496_0 hr7496_1 hm_7496 hl
      refine lv_iload_n hx hb dX12_ends_4 rfl (lv_at hl 0 rfl) ?_
      refine lv_aload_n hx hb dX12_ends_5 rfl (lv_at hl 2 rfl) ?_
      refine va_get (D := D) (ci := 12) (v := .ref m_s) (C := RX12) (T := TX12) (N := 35) hx hb hts inlX12 hown hK hP 0 rfl rfl 1 (by decide) (hts (Cond.fieldLink RX12 13 "ChanceRingsModel" "s" "[I") qw_73) (fun _ h9 => h9) rfl dX12_ends_6 ?_
      refine lv_iconst (v := 0) hx hb dX12_ends_9 (by decide) ?_
      refine va_iald hx hb hK hP 1 0 rfl rfl (tz_in (by decide +kernel)) dX12_ends_10 ?_
      refine lv_topi (fun v_7497 v_7497_e => ?_)
      have h_v_7497 : 0 ≤ (v_7497 : Int32).toInt ∧ (v_7497 : Int32).toInt ≤ 12 := by rw [v_7497_e]; exact gr_nodes hG.r (⟨by decide, by decide⟩ : 0 ≤ (0 : Int32).toInt ∧ (0 : Int32).toInt ≤ 0)
      have g_v_7497 : v_7497 = sf (0) := v_7497_e.trans (congrArg sf rfl)
      have gi_v_7497 := congrArg Int32.toInt g_v_7497
      refine lv_icmp_ge (tgt := 39) hx hb dX12_ends_11 (by decide) (fun c_7498 => ?_) (fun c_7498 => ?_)
      · skip
        have c_7498_i := Int32.le_iff_toInt_le.mp c_7498
        refine lv_iload_n hx hb dX12_ends_39 rfl (lv_at hl 1 rfl) ?_
        exact W.iret (v := x_7494) hx hb hr (fun t ht hW => ⟨x_7494, rfl, ⟨(tr_w h_x_7494 (by decide) (by decide)), (fun j => by rw [hr7496_0 j, show x_7495.toInt.toNat = (sf 0).toInt.toNat by (first | (clear h_i_undoMany h_i_length h_i_size h_i_p h_i_at h_i_token h_i_number h_i_letterMany h_i_faultAt h_i_isKnown h_i_toldMany; omega) | omega)])⟩, ht⟩) (fun _ h => nomatch h) dX12_ends_40
      · skip
        have c_7498_i := Int32.lt_iff_toInt_lt.mp (Int32.not_le.mp c_7498)
        have h_7499 : 0 ≤ (x_7495 : Int32).toInt ∧ (x_7495 : Int32).toInt ≤ 11 := nr_lt_l h_x_7495 h_v_7497 c_7498_i (by decide) (by decide)
        have h_7500 : 1 ≤ (v_7497 : Int32).toInt ∧ (v_7497 : Int32).toInt ≤ 12 := nr_lt_r h_x_7495 h_v_7497 c_7498_i (by decide) (by decide)
        refine lv_iload_n hx hb dX12_ends_14 rfl (lv_at hl 1 rfl) ?_
        refine lv_aload_n hx hb dX12_ends_15 rfl (lv_at hl 2 rfl) ?_
        refine lv_iload_n hx hb dX12_ends_16 rfl (lv_at hl 0 rfl) ?_
        refine lv_iconst (v := 0) hx hb dX12_ends_17 (by decide) ?_
        have hPc := hP.sub (ws' := [(mm, .inr (12, (.int i_thrown :: .ref m_s :: .ref m_spare :: .ref m_kept :: .ref m_undone :: .ref m_triedWay :: .ref m_isKept :: .int i_undoMany :: .ref m_tape :: .int i_length :: .int i_size :: .int i_p :: .int i_at :: .int i_token :: .int i_number :: .int i_letterMany :: .int i_fault :: .int i_faultAt :: .ref m_letters :: .int i_isKnown :: .ref m_choice :: .ref m_row :: .ref m_up :: .ref m_low :: .ref m_m :: .ref m_bestUp :: .ref m_bestLow :: .ref m_replyUp :: .ref m_replyLow :: .ref m_worthUp :: .ref m_worthLow :: .ref m_bestWay :: .int i_seed :: .ref m_told :: .int i_toldMany :: []))), (m_s, .inl (g 0, 193, .inl sf))]) [0, 1] rfl
        refine vp_callSi (va_Run.run (va_runV (As := [.int x_7495, .int 0]) (rest := [.int x_7494]) ⟨hx, hb, hml, hown, hts⟩ (c_X12_isKind l D g mm x_7495 0 i_thrown m_s m_spare m_kept m_undone m_triedWay m_isKept i_undoMany m_tape i_length i_size i_p i_at i_token i_number i_letterMany i_fault i_faultAt m_letters i_isKnown m_choice m_row m_up m_low m_m m_bestUp m_bestLow m_replyUp m_replyLow m_worthUp m_worthLow m_bestWay i_seed m_told i_toldMany sf (tr_w h_7499 (by decide) (by decide)) (tr_w h_i_undoMany (by decide) (by decide)) (tr_w h_i_length (by decide) (by decide)) (tr_w h_i_size (by decide) (by decide)) (tr_w h_i_p (by decide) (by decide)) (tr_w h_i_at (by decide) (by decide)) (tr_w h_i_token (by decide) (by decide)) (tr_w h_i_number (by decide) (by decide)) (tr_w h_i_letterMany (by decide) (by decide)) (tr_w h_i_faultAt (by decide) (by decide)) (tr_w h_i_isKnown (by decide) (by decide)) (tr_w h_i_toldMany (by decide) (by decide)) hG) (cwV 2 hts (tz_gV qw_94 qw_95 qw_96 qw_3 qw_97) rfl rfl rfl (by decide +kernel) ⟨Nat.le_of_ble_eq_true rfl, Nat.le_of_ble_eq_true rfl⟩) ⟨tz_blS, va_recv hK hPc (ci := 12) (q0 := 0) rfl rfl, tz_preS hPc hK⟩ rfl rfl hl.1 rfl (lv_room (Nat.le_of_ble_eq_true rfl)) dX12_ends_18 ⟨Nat.le_of_ble_eq_true rfl, Nat.le_of_ble_eq_true rfl⟩)) (fun r_7501 hw => ?_)
        have kk_0 := tk_0
        have hw_7502 : 0 ≤ (r_7501 : Int32).toInt ∧ (r_7501 : Int32).toInt ≤ 1 := hw.1
        have hw_7502_p0 : Hide (¬ (r_7501 : Int32).toInt = 0 → (sf (1 + (x_7495 : Int32).toInt.toNat)).toInt = (0 : Int32).toInt) := hw.2.1
        have hw_7502_p1 : Hide ((r_7501 : Int32).toInt = 0 → ¬ (sf (1 + (x_7495 : Int32).toInt.toNat)).toInt = (0 : Int32).toInt) := hw.2.2
        refine lv_if_eq (tgt := 30) hx hb dX12_ends_21 (by decide) (fun c_7503 => ?_) (fun c_7503 => ?_)
        · skip
          have c_7503_i : (r_7501 : Int32).toInt = (0 : Int32).toInt := congrArg Int32.toInt c_7503
          have hw_7502_p1_u := (hw_7502_p1).get (c_7503_i.trans tk_0)
          have h_7504 : 0 ≤ (r_7501 : Int32).toInt ∧ (r_7501 : Int32).toInt ≤ 0 := nr_eq_l hw_7502 (⟨by decide, by decide⟩ : 0 ≤ (0 : Int32).toInt ∧ (0 : Int32).toInt ≤ 0) c_7503_i (by decide) (by decide)
          refine lv_iconst (v := 0) hx hb dX12_ends_30 (by decide) ?_
          refine lv_ior hx hb dX12_ends_31 ?_
          refine lv_topi (fun v_7506 v_7506_e => ?_)
          have h_v_7506 : 0 ≤ (v_7506 : Int32).toInt ∧ (v_7506 : Int32).toInt ≤ 4095 := by rw [v_7506_e]; exact (tr_or12 (tr_w h_x_7494 (by decide) (by decide)) (⟨by decide, by decide⟩ : 0 ≤ (0 : Int32).toInt ∧ (0 : Int32).toInt ≤ 4095)).1
          have o_v_7506 : (x_7494 : Int32).toInt ≤ (v_7506 : Int32).toInt := by rw [v_7506_e]; exact (tr_or12 (tr_w h_x_7494 (by decide) (by decide)) (⟨by decide, by decide⟩ : 0 ≤ (0 : Int32).toInt ∧ (0 : Int32).toInt ≤ 4095)).2
          refine lv_istore_n (lv' := [(1, .int v_7506), (2, .int x_7495), (0, .ref mm)]) hx hb dX12_ends_32 rfl hl (by decide) rfl (fun ls hl => ?_)
          obtain ⟨v_7507, v_7507_e⟩ : ∃ y : Int32, y = x_7495 + Int32.ofInt 1 := ⟨_, rfl⟩
          have h_v_7507 : 1 ≤ (v_7507 : Int32).toInt ∧ (v_7507 : Int32).toInt ≤ 12 := by rw [v_7507_e]; exact tr_add h_7499 (⟨by decide, by decide⟩ : 1 ≤ (Int32.ofInt 1 : Int32).toInt ∧ (Int32.ofInt 1 : Int32).toInt ≤ 1) (by decide) (by decide) (by decide) (by decide)
          have q_v_7507 : v_7507.toInt = x_7495.toInt + 1 := by rw [v_7507_e]; exact tr_addE h_7499 (⟨by decide, by decide⟩ : 1 ≤ (Int32.ofInt 1 : Int32).toInt ∧ (Int32.ofInt 1 : Int32).toInt ≤ 1) (by decide) (by decide)
          refine lv_iinc (v := v_7507) (lv' := [(2, .int v_7507), (1, .int v_7506), (0, .ref mm)]) hx hb dX12_ends_33 hl (k := 1) rfl v_7507_e.symm (by decide) rfl (fun ls hl => ?_)
          refine lv_goto (tgt := 4) hx hb dX12_ends_36 (by decide) ?_
          exact ih_7496 v_7506 v_7507 ls (tr_w h_v_7506 (by decide) (by decide)) (tr_w h_v_7507 (by decide) (by decide)) (en_skip hr7496_0 v_7506_e (by have z_0 := tk_0; (first | (clear h_i_undoMany h_i_length h_i_size h_i_p h_i_at h_i_token h_i_number h_i_letterMany h_i_faultAt h_i_isKnown h_i_toldMany h_x_7494 hw_7502 c_7503_i h_7504; omega) | omega)) (by (first | (clear h_i_undoMany h_i_length h_i_size h_i_p h_i_at h_i_token h_i_number h_i_letterMany h_i_faultAt h_i_isKnown h_i_toldMany h_x_7494 hw_7502 c_7503_i h_7504; omega) | omega))) (by have z_0 := tk_0; (first | (clear h_i_undoMany h_i_length h_i_size h_i_p h_i_at h_i_token h_i_number h_i_letterMany h_i_faultAt h_i_isKnown h_i_toldMany h_x_7494 hw_7502 c_7503_i h_7504; omega) | omega)) (by (first | (clear h_i_undoMany h_i_length h_i_size h_i_p h_i_at h_i_token h_i_number h_i_letterMany h_i_faultAt h_i_isKnown h_i_toldMany h_x_7494 hw_7502 c_7503_i h_7504; omega) | omega)) (lv_sub hl [0, 1, 2] rfl)
        · skip
          have c_7503_i : ¬ (r_7501 : Int32).toInt = (0 : Int32).toInt := (fun q => c_7503 (Int32.toInt_inj.mp q))
          have hw_7502_p0_u := (hw_7502_p0).get (fun q => c_7503_i (q.trans tk_0.symm))
          have h_7505 : 1 ≤ (r_7501 : Int32).toInt ∧ (r_7501 : Int32).toInt ≤ 1 := nr_ne_l hw_7502 (⟨by decide, by decide⟩ : 0 ≤ (0 : Int32).toInt ∧ (0 : Int32).toInt ≤ 0) c_7503_i (by decide) (by decide)
          refine lv_iconst (v := 1) hx hb dX12_ends_24 (by decide) ?_
          refine lv_iload_n hx hb dX12_ends_25 rfl (lv_at hl 0 rfl) ?_
          refine lv_ishl hx hb dX12_ends_26 ?_
          refine lv_topi (fun v_7508 v_7508_e => ?_)
          have h_v_7508 : 0 ≤ (v_7508 : Int32).toInt ∧ (v_7508 : Int32).toInt ≤ 4095 := by rw [v_7508_e]; exact tr_shl12 (tr_w h_7499 (by decide) (by decide))
          refine lv_goto (tgt := 31) hx hb dX12_ends_27 (by decide) ?_
          refine lv_ior hx hb dX12_ends_31 ?_
          refine lv_topi (fun v_7509 v_7509_e => ?_)
          have h_v_7509 : 0 ≤ (v_7509 : Int32).toInt ∧ (v_7509 : Int32).toInt ≤ 4095 := by rw [v_7509_e]; exact (tr_or12 (tr_w h_x_7494 (by decide) (by decide)) (tr_w h_v_7508 (by decide) (by decide))).1
          have o_v_7509 : (x_7494 : Int32).toInt ≤ (v_7509 : Int32).toInt := by rw [v_7509_e]; exact (tr_or12 (tr_w h_x_7494 (by decide) (by decide)) (tr_w h_v_7508 (by decide) (by decide))).2
          refine lv_istore_n (lv' := [(1, .int v_7509), (2, .int x_7495), (0, .ref mm)]) hx hb dX12_ends_32 rfl hl (by decide) rfl (fun ls hl => ?_)
          obtain ⟨v_7510, v_7510_e⟩ : ∃ y : Int32, y = x_7495 + Int32.ofInt 1 := ⟨_, rfl⟩
          have h_v_7510 : 1 ≤ (v_7510 : Int32).toInt ∧ (v_7510 : Int32).toInt ≤ 12 := by rw [v_7510_e]; exact tr_add h_7499 (⟨by decide, by decide⟩ : 1 ≤ (Int32.ofInt 1 : Int32).toInt ∧ (Int32.ofInt 1 : Int32).toInt ≤ 1) (by decide) (by decide) (by decide) (by decide)
          have q_v_7510 : v_7510.toInt = x_7495.toInt + 1 := by rw [v_7510_e]; exact tr_addE h_7499 (⟨by decide, by decide⟩ : 1 ≤ (Int32.ofInt 1 : Int32).toInt ∧ (Int32.ofInt 1 : Int32).toInt ≤ 1) (by decide) (by decide)
          refine lv_iinc (v := v_7510) (lv' := [(2, .int v_7510), (1, .int v_7509), (0, .ref mm)]) hx hb dX12_ends_33 hl (k := 1) rfl v_7510_e.symm (by decide) rfl (fun ls hl => ?_)
          refine lv_goto (tgt := 4) hx hb dX12_ends_36 (by decide) ?_
          exact ih_7496 v_7509 v_7510 ls (tr_w h_v_7509 (by decide) (by decide)) (tr_w h_v_7510 (by decide) (by decide)) (en_add (t := x_7495) hr7496_0 h_x_7494 h_7499 v_7508_e v_7509_e (by (first | (clear h_i_undoMany h_i_length h_i_size h_i_p h_i_at h_i_token h_i_number h_i_letterMany h_i_faultAt h_i_isKnown h_i_toldMany hw_7502 c_7503_i h_7505 h_v_7508; omega) | omega)) (by have z_0 := tk_0; (first | (clear h_i_undoMany h_i_length h_i_size h_i_p h_i_at h_i_token h_i_number h_i_letterMany h_i_faultAt h_i_isKnown h_i_toldMany hw_7502 c_7503_i h_7505 h_v_7508; omega) | omega)) (by (first | (clear h_i_undoMany h_i_length h_i_size h_i_p h_i_at h_i_token h_i_number h_i_letterMany h_i_faultAt h_i_isKnown h_i_toldMany hw_7502 c_7503_i h_7505 h_v_7508; omega) | omega))) (by have z_0 := tk_0; (first | (clear h_i_undoMany h_i_length h_i_size h_i_p h_i_at h_i_token h_i_number h_i_letterMany h_i_faultAt h_i_isKnown h_i_toldMany hw_7502 c_7503_i h_7505 h_v_7508; omega) | omega)) (by (first | (clear h_i_undoMany h_i_length h_i_size h_i_p h_i_at h_i_token h_i_number h_i_letterMany h_i_faultAt h_i_isKnown h_i_toldMany hw_7502 c_7503_i h_7505 h_v_7508; omega) | omega)) (lv_sub hl [0, 1, 2] rfl)
  exact lp_7496 13 0 0 ls (⟨by decide, by decide⟩ : 0 ≤ (0 : Int32).toInt ∧ (0 : Int32).toInt ≤ 4095) (⟨by decide, by decide⟩ : 0 ≤ (0 : Int32).toInt ∧ (0 : Int32).toInt ≤ 12) en_zero (by have z_0 := tk_0; (first | (clear h_i_undoMany h_i_length h_i_size h_i_p h_i_at h_i_token h_i_number h_i_letterMany h_i_faultAt h_i_isKnown h_i_toldMany; omega) | omega)) (by decide) (lv_sub hl [0, 1, 2] rfl)
set_option maxHeartbeats 4000000 in
set_option maxRecDepth 100000 in
theorem c_X12_comes (l : Launch) (D : va_G) (g : Nat → ClassId) (mm : Nat) (p0 : Int32) (i_thrown : Int32) (m_s : Nat) (m_spare : Nat) (m_kept : Nat) (m_undone : Nat) (m_triedWay : Nat) (m_isKept : Nat) (i_undoMany : Int32) (m_tape : Nat) (i_length : Int32) (i_size : Int32) (i_p : Int32) (i_at : Int32) (i_token : Int32) (i_number : Int32) (i_letterMany : Int32) (i_fault : Int32) (i_faultAt : Int32) (m_letters : Nat) (i_isKnown : Int32) (m_choice : Nat) (m_row : Nat) (m_up : Nat) (m_low : Nat) (m_m : Nat) (m_bestUp : Nat) (m_bestLow : Nat) (m_replyUp : Nat) (m_replyLow : Nat) (m_worthUp : Nat) (m_worthLow : Nat) (m_bestWay : Nat) (i_seed : Int32) (m_told : Nat) (i_toldMany : Int32) (sf : Nat → Int32) (chf : Nat → Int32) (h_p0 : 0 ≤ (p0 : Int32).toInt ∧ (p0 : Int32).toInt ≤ 4095) (h_i_undoMany : 0 ≤ (i_undoMany : Int32).toInt ∧ (i_undoMany : Int32).toInt ≤ 8) (h_i_length : 0 ≤ (i_length : Int32).toInt ∧ (i_length : Int32).toInt ≤ 440) (h_i_size : 0 ≤ (i_size : Int32).toInt ∧ (i_size : Int32).toInt ≤ 440) (h_i_p : 0 ≤ (i_p : Int32).toInt ∧ (i_p : Int32).toInt ≤ 440) (h_i_at : 0 ≤ (i_at : Int32).toInt ∧ (i_at : Int32).toInt ≤ 440) (h_i_token : 0 ≤ (i_token : Int32).toInt ∧ (i_token : Int32).toInt ≤ 4) (h_i_number : 0 ≤ (i_number : Int32).toInt ∧ (i_number : Int32).toInt ≤ 814) (h_i_letterMany : (-440) ≤ (i_letterMany : Int32).toInt ∧ (i_letterMany : Int32).toInt ≤ 440) (h_i_faultAt : 0 ≤ (i_faultAt : Int32).toInt ∧ (i_faultAt : Int32).toInt ≤ 440) (h_i_isKnown : 0 ≤ (i_isKnown : Int32).toInt ∧ (i_isKnown : Int32).toInt ≤ 1) (h_i_toldMany : 0 ≤ (i_toldMany : Int32).toInt ∧ (i_toldMany : Int32).toInt ≤ 900) (h_chf : ∀ j : Nat, 0 ≤ (chf j).toInt ∧ (chf j).toInt ≤ 2) (hG : GS sf) : Met l yX12_comes (.code yX12_comes cX12_comes 5 (some .int) :: wsL_law) ({ frames := 2, cells := 0, slots := 0, locals := 45 }) (va_Pc [.ref mm, .int p0] (fun U => va_P D vwCl [(mm, .inr (12, (.int i_thrown :: .ref m_s :: .ref m_spare :: .ref m_kept :: .ref m_undone :: .ref m_triedWay :: .ref m_isKept :: .int i_undoMany :: .ref m_tape :: .int i_length :: .int i_size :: .int i_p :: .int i_at :: .int i_token :: .int i_number :: .int i_letterMany :: .int i_fault :: .int i_faultAt :: .ref m_letters :: .int i_isKnown :: .ref m_choice :: .ref m_row :: .ref m_up :: .ref m_low :: .ref m_m :: .ref m_bestUp :: .ref m_bestLow :: .ref m_replyUp :: .ref m_replyLow :: .ref m_worthUp :: .ref m_worthLow :: .ref m_bestWay :: .int i_seed :: .ref m_told :: .int i_toldMany :: []))), (m_s, .inl (g 0, 193, .inl sf)), (m_choice, .inl (g 0, 12, .inl chf))] U.heap ∧ va_K D vwCl (TY g) U)) (vp_Si (fun r => (0 ≤ (r : Int32).toInt ∧ (r : Int32).toInt ≤ 4095) ∧ (LF sf chf p0 r ∧ CL sf chf (bt r)))) 0 0 (fun _ => False) := by
  refine Met.ofW (cc := cX12_comes) (maxL := 5) (ret := (some .int)) (by decide) rfl ?_
  intro p e s m args below meth c s₁ B hml hv
  obtain ⟨ha, hP, hK⟩ := hv
  have hx := B.exec
  have hb := B.bytes
  have hr := B.returns
  have hts0 := atoms_spec (ws := (.code yX12_comes cX12_comes 5 (some .int) :: wsL_law)) B.pre
  have hts : ∀ w ∈ wsL_law, w.before args s = true := fun w h => hts0 w (List.mem_cons_of_mem _ h)
  have hown : s.vm.findClass RX12 = some m.cls := findClass_of_methodNamed B.named
  have hlocks := B.notSynchronized
  have hP : va_P D vwCl [(mm, .inr (12, (.int i_thrown :: .ref m_s :: .ref m_spare :: .ref m_kept :: .ref m_undone :: .ref m_triedWay :: .ref m_isKept :: .int i_undoMany :: .ref m_tape :: .int i_length :: .int i_size :: .int i_p :: .int i_at :: .int i_token :: .int i_number :: .int i_letterMany :: .int i_fault :: .int i_faultAt :: .ref m_letters :: .int i_isKnown :: .ref m_choice :: .ref m_row :: .ref m_up :: .ref m_low :: .ref m_m :: .ref m_bestUp :: .ref m_bestLow :: .ref m_replyUp :: .ref m_replyLow :: .ref m_worthUp :: .ref m_worthLow :: .ref m_bestWay :: .int i_seed :: .ref m_told :: .int i_toldMany :: []))), (m_s, .inl (g 0, 193, .inl sf)), (m_choice, .inl (g 0, 12, .inl chf))] s.heap := hP
  refine W.eq (g2 := entryFrame m ([.ref mm, .int p0] : List Value).toArray 5) (by rw [ha]) ?_
  have hl := lv_entry ([.ref mm, .int p0]) (n := 5) (Nat.le_of_ble_eq_true rfl)
  rw [lg_entry_eq]
  generalize (lg_sl ([.ref mm, .int p0]) ++ List.replicate (5 - (lg_sl ([.ref mm, .int p0])).length) Slot.unset).toArray = ls at hl ⊢
  have hl : lv_has ls 5 [(0, .ref mm), (1, .int p0)] := hl
  have gn9 := hG.r.1
  refine lv_iload_n hx hb dX12_comes_0 rfl (lv_at hl 1 rfl) ?_
  refine lv_istore_n (lv' := [(2, .int p0), (0, .ref mm), (1, .int p0)]) hx hb dX12_comes_1 rfl hl (by decide) rfl (fun ls hl => ?_)
  refine lv_iconst (v := 0) hx hb dX12_comes_2 (by decide) ?_
  refine lv_istore_n (lv' := [(3, .int 0), (2, .int p0), (0, .ref mm), (1, .int p0)]) hx hb dX12_comes_3 rfl hl (by decide) rfl (fun ls hl => ?_)
  have lp_7558 : ∀ (n_7558 : Nat) (x_7556 : Int32) (x_7557 : Int32) (ls : Array Slot), (0 ≤ (x_7556 : Int32).toInt ∧ (x_7556 : Int32).toInt ≤ 4095) → (0 ≤ (x_7557 : Int32).toInt ∧ (x_7557 : Int32).toInt ≤ 4095) → (LF sf chf p0 x_7556) → ((x_7557 : Int32) = x_7556 → CL sf chf (bt x_7556)) → (x_7557.toInt ≤ x_7556.toInt) → (4095 - x_7557.toInt < (n_7558 : Int)) → lv_has ls 5 [(3, .int x_7557), (2, .int x_7556), (0, .ref mm), (1, .int p0)] → W p l e (headSpec (.code yX12_comes cX12_comes 5 (some .int) :: wsL_law) ({ frames := 2, cells := 0, slots := 0, locals := 45 })).room s m args below meth c s.heap [] 0 0 (MQ below (vp_Si (fun r => (0 ≤ (r : Int32).toInt ∧ (r : Int32).toInt ≤ 4095) ∧ (LF sf chf p0 r ∧ CL sf chf (bt r)))) args s 0 0 (fun _ => False)) (F0 m 4 ls []) := by
    intro n_7558
    induction n_7558 with
    | zero =>
      intro x_7556 x_7557 ls h_x_7556 h_x_7557 hr7558_0 hr7558_1 hr7558_2 hm_7558 hl
      exfalso; omega
    | succ n_7558 ih_7558 =>
      intro x_7556 x_7557 ls h_x_7556 h_x_7557 hr7558_0 hr7558_1 hr7558_2 hm_7558 hl
      refine lv_iload_n hx hb dX12_comes_4 rfl (lv_at hl 0 rfl) ?_
      refine lv_iload_n hx hb dX12_comes_5 rfl (lv_at hl 1 rfl) ?_
      refine lv_icmp_eq (tgt := 62) hx hb dX12_comes_6 (by decide) (fun c_7559 => ?_) (fun c_7559 => ?_)
      · skip
        have c_7559_i : (x_7557 : Int32).toInt = (x_7556 : Int32).toInt := congrArg Int32.toInt c_7559
        refine lv_iload_n hx hb dX12_comes_62 rfl (lv_at hl 1 rfl) ?_
        exact W.iret (v := x_7556) hx hb hr (fun t ht hW => ⟨x_7556, rfl, ⟨(tr_w h_x_7556 (by decide) (by decide)), ⟨hr7558_0, hr7558_1 c_7559⟩⟩, ht⟩) (fun _ h => nomatch h) dX12_comes_63
      · skip
        have c_7559_i : ¬ (x_7557 : Int32).toInt = (x_7556 : Int32).toInt := (fun q => c_7559 (Int32.toInt_inj.mp q))
        refine lv_iload_n hx hb dX12_comes_9 rfl (lv_at hl 1 rfl) ?_
        refine lv_istore_n (lv' := [(3, .int x_7556), (2, .int x_7556), (0, .ref mm), (1, .int p0)]) hx hb dX12_comes_10 rfl hl (by decide) rfl (fun ls hl => ?_)
        refine lv_iconst (v := 0) hx hb dX12_comes_11 (by decide) ?_
        refine lv_istore (lv' := [(4, .int 0), (3, .int x_7556), (2, .int x_7556), (0, .ref mm), (1, .int p0)]) hx hb dX12_comes_12 hl (by decide) rfl (fun ls hl => ?_)
        have lp_7583 : ∀ (n_7583 : Nat) (x_7581 : Int32) (x_7582 : Int32) (ls : Array Slot), (0 ≤ (x_7581 : Int32).toInt ∧ (x_7581 : Int32).toInt ≤ 4095) → (0 ≤ (x_7582 : Int32).toInt ∧ (x_7582 : Int32).toInt ≤ 12) → (LF sf chf p0 x_7581) → (x_7581 = x_7556 → CLm sf chf x_7582.toInt.toNat (bt x_7556)) → (x_7556.toInt ≤ x_7581.toInt) → (x_7582.toInt ≤ (sf 0).toInt) → (12 - x_7582.toInt < (n_7583 : Int)) → lv_has ls 5 [(4, .int x_7582), (3, .int x_7556), (2, .int x_7581), (0, .ref mm), (1, .int p0)] → W p l e (headSpec (.code yX12_comes cX12_comes 5 (some .int) :: wsL_law) ({ frames := 2, cells := 0, slots := 0, locals := 45 })).room s m args below meth c s.heap [] 0 0 (MQ below (vp_Si (fun r => (0 ≤ (r : Int32).toInt ∧ (r : Int32).toInt ≤ 4095) ∧ (LF sf chf p0 r ∧ CL sf chf (bt r)))) args s 0 0 (fun _ => False)) (F0 m 14 ls []) := by
          intro n_7583
          induction n_7583 with
          | zero =>
            intro x_7581 x_7582 ls h_x_7581 h_x_7582 hr7583_0 hr7583_1 hr7583_2 hr7583_3 hm_7583 hl
            exfalso; omega
          | succ n_7583 ih_7583 =>
            intro x_7581 x_7582 ls h_x_7581 h_x_7582 hr7583_0 hr7583_1 hr7583_2 hr7583_3 hm_7583 hl
            refine lv_iload hx hb dX12_comes_14 (lv_at hl 0 rfl) ?_
            refine lv_aload_n hx hb dX12_comes_16 rfl (lv_at hl 3 rfl) ?_
            refine va_get (D := D) (ci := 12) (v := .ref m_s) (C := RX12) (T := TX12) (N := 35) hx hb hts inlX12 hown hK hP 0 rfl rfl 1 (by decide) (hts (Cond.fieldLink RX12 13 "ChanceRingsModel" "s" "[I") qw_73) (fun _ h9 => h9) rfl dX12_comes_17 ?_
            refine lv_iconst (v := 0) hx hb dX12_comes_20 (by decide) ?_
            refine va_iald hx hb hK hP 1 0 rfl rfl (tz_in (by decide +kernel)) dX12_comes_21 ?_
            refine lv_topi (fun v_7584 v_7584_e => ?_)
            have h_v_7584 : 0 ≤ (v_7584 : Int32).toInt ∧ (v_7584 : Int32).toInt ≤ 12 := by rw [v_7584_e]; exact gr_nodes hG.r (⟨by decide, by decide⟩ : 0 ≤ (0 : Int32).toInt ∧ (0 : Int32).toInt ≤ 0)
            have g_v_7584 : v_7584 = sf (0) := v_7584_e.trans (congrArg sf rfl)
            have gi_v_7584 := congrArg Int32.toInt g_v_7584
            refine lv_icmp_ge (tgt := 59) hx hb dX12_comes_22 (by decide) (fun c_7585 => ?_) (fun c_7585 => ?_)
            · skip
              have c_7585_i := Int32.le_iff_toInt_le.mp c_7585
              refine lv_goto (tgt := 4) hx hb dX12_comes_59 (by decide) ?_
              exact ih_7558 x_7581 x_7556 ls (tr_w h_x_7581 (by decide) (by decide)) (tr_w h_x_7556 (by decide) (by decide)) hr7583_0 (CLm_done (m := x_7582.toInt.toNat) hr7583_1 (by (first | (clear h_p0 h_i_undoMany h_i_length h_i_size h_i_p h_i_at h_i_token h_i_number h_i_letterMany h_i_faultAt h_i_isKnown h_i_toldMany; omega) | omega))) (by have z_0 := tk_0; (first | (clear h_p0 h_i_undoMany h_i_length h_i_size h_i_p h_i_at h_i_token h_i_number h_i_letterMany h_i_faultAt h_i_isKnown h_i_toldMany; omega) | omega)) (by (first | (clear h_p0 h_i_undoMany h_i_length h_i_size h_i_p h_i_at h_i_token h_i_number h_i_letterMany h_i_faultAt h_i_isKnown h_i_toldMany; omega) | omega)) (lv_sub hl [1, 2, 3, 4] rfl)
            · skip
              have c_7585_i := Int32.lt_iff_toInt_lt.mp (Int32.not_le.mp c_7585)
              have h_7586 : 0 ≤ (x_7582 : Int32).toInt ∧ (x_7582 : Int32).toInt ≤ 11 := nr_lt_l h_x_7582 h_v_7584 c_7585_i (by decide) (by decide)
              have h_7587 : 1 ≤ (v_7584 : Int32).toInt ∧ (v_7584 : Int32).toInt ≤ 12 := nr_lt_r h_x_7582 h_v_7584 c_7585_i (by decide) (by decide)
              refine lv_aload_n hx hb dX12_comes_25 rfl (lv_at hl 3 rfl) ?_
              refine lv_iload hx hb dX12_comes_26 (lv_at hl 0 rfl) ?_
              refine lv_iconst (v := 0) hx hb dX12_comes_28 (by decide) ?_
              have hPc := hP.sub (ws' := [(mm, .inr (12, (.int i_thrown :: .ref m_s :: .ref m_spare :: .ref m_kept :: .ref m_undone :: .ref m_triedWay :: .ref m_isKept :: .int i_undoMany :: .ref m_tape :: .int i_length :: .int i_size :: .int i_p :: .int i_at :: .int i_token :: .int i_number :: .int i_letterMany :: .int i_fault :: .int i_faultAt :: .ref m_letters :: .int i_isKnown :: .ref m_choice :: .ref m_row :: .ref m_up :: .ref m_low :: .ref m_m :: .ref m_bestUp :: .ref m_bestLow :: .ref m_replyUp :: .ref m_replyLow :: .ref m_worthUp :: .ref m_worthLow :: .ref m_bestWay :: .int i_seed :: .ref m_told :: .int i_toldMany :: []))), (m_s, .inl (g 0, 193, .inl sf))]) [0, 1] rfl
              refine vp_callSi (va_Run.run (va_runV (As := [.int x_7582, .int 0]) (rest := []) ⟨hx, hb, hml, hown, hts⟩ (c_X12_isKind l D g mm x_7582 0 i_thrown m_s m_spare m_kept m_undone m_triedWay m_isKept i_undoMany m_tape i_length i_size i_p i_at i_token i_number i_letterMany i_fault i_faultAt m_letters i_isKnown m_choice m_row m_up m_low m_m m_bestUp m_bestLow m_replyUp m_replyLow m_worthUp m_worthLow m_bestWay i_seed m_told i_toldMany sf (tr_w h_7586 (by decide) (by decide)) (tr_w h_i_undoMany (by decide) (by decide)) (tr_w h_i_length (by decide) (by decide)) (tr_w h_i_size (by decide) (by decide)) (tr_w h_i_p (by decide) (by decide)) (tr_w h_i_at (by decide) (by decide)) (tr_w h_i_token (by decide) (by decide)) (tr_w h_i_number (by decide) (by decide)) (tr_w h_i_letterMany (by decide) (by decide)) (tr_w h_i_faultAt (by decide) (by decide)) (tr_w h_i_isKnown (by decide) (by decide)) (tr_w h_i_toldMany (by decide) (by decide)) hG) (cwV 2 hts (tz_gV qw_94 qw_95 qw_96 qw_3 qw_97) rfl rfl rfl (by decide +kernel) ⟨Nat.le_of_ble_eq_true rfl, Nat.le_of_ble_eq_true rfl⟩) ⟨tz_blS, va_recv hK hPc (ci := 12) (q0 := 0) rfl rfl, tz_preS hPc hK⟩ rfl rfl hl.1 rfl (lv_room (Nat.le_of_ble_eq_true rfl)) dX12_comes_29 ⟨Nat.le_of_ble_eq_true rfl, Nat.le_of_ble_eq_true rfl⟩)) (fun r_7588 hw => ?_)
              have kk_0 := tk_0
              have hw_7589 : 0 ≤ (r_7588 : Int32).toInt ∧ (r_7588 : Int32).toInt ≤ 1 := hw.1
              have hw_7589_p0 : Hide (¬ (r_7588 : Int32).toInt = 0 → (sf (1 + (x_7582 : Int32).toInt.toNat)).toInt = (0 : Int32).toInt) := hw.2.1
              have hw_7589_p1 : Hide ((r_7588 : Int32).toInt = 0 → ¬ (sf (1 + (x_7582 : Int32).toInt.toNat)).toInt = (0 : Int32).toInt) := hw.2.2
              refine lv_if_ne (tgt := 53) hx hb dX12_comes_32 (by decide) (fun c_7590 => ?_) (fun c_7590 => ?_)
              · skip
                have c_7590_i : ¬ (r_7588 : Int32).toInt = (0 : Int32).toInt := (fun q => c_7590 (Int32.toInt_inj.mp q))
                have hw_7589_p0_u := (hw_7589_p0).get (fun q => c_7590_i (q.trans tk_0.symm))
                have h_7591 : 1 ≤ (r_7588 : Int32).toInt ∧ (r_7588 : Int32).toInt ≤ 1 := nr_ne_l hw_7589 (⟨by decide, by decide⟩ : 0 ≤ (0 : Int32).toInt ∧ (0 : Int32).toInt ≤ 0) c_7590_i (by decide) (by decide)
                obtain ⟨v_7593, v_7593_e⟩ : ∃ y : Int32, y = x_7582 + Int32.ofInt 1 := ⟨_, rfl⟩
                have h_v_7593 : 1 ≤ (v_7593 : Int32).toInt ∧ (v_7593 : Int32).toInt ≤ 12 := by rw [v_7593_e]; exact tr_add h_7586 (⟨by decide, by decide⟩ : 1 ≤ (Int32.ofInt 1 : Int32).toInt ∧ (Int32.ofInt 1 : Int32).toInt ≤ 1) (by decide) (by decide) (by decide) (by decide)
                have q_v_7593 : v_7593.toInt = x_7582.toInt + 1 := by rw [v_7593_e]; exact tr_addE h_7586 (⟨by decide, by decide⟩ : 1 ≤ (Int32.ofInt 1 : Int32).toInt ∧ (Int32.ofInt 1 : Int32).toInt ≤ 1) (by decide) (by decide)
                refine lv_iinc (v := v_7593) (lv' := [(4, .int v_7593), (3, .int x_7556), (2, .int x_7581), (0, .ref mm), (1, .int p0)]) hx hb dX12_comes_53 hl (k := 0) rfl v_7593_e.symm (by decide) rfl (fun ls hl => ?_)
                refine lv_goto (tgt := 14) hx hb dX12_comes_56 (by decide) ?_
                exact ih_7583 x_7581 v_7593 ls (tr_w h_x_7581 (by decide) (by decide)) (tr_w h_v_7593 (by decide) (by decide)) hr7583_0 (CLm_end hr7583_1 (by have z_0 := tk_0; (first | (clear h_p0 h_i_undoMany h_i_length h_i_size h_i_p h_i_at h_i_token h_i_number h_i_letterMany h_i_faultAt h_i_isKnown h_i_toldMany h_x_7556 h_x_7557 c_7559_i hw_7589 c_7590_i h_7591; omega) | omega)) (by (first | (clear h_p0 h_i_undoMany h_i_length h_i_size h_i_p h_i_at h_i_token h_i_number h_i_letterMany h_i_faultAt h_i_isKnown h_i_toldMany h_x_7556 h_x_7557 c_7559_i hw_7589 c_7590_i h_7591; omega) | omega))) (by have z_0 := tk_0; (first | (clear h_p0 h_i_undoMany h_i_length h_i_size h_i_p h_i_at h_i_token h_i_number h_i_letterMany h_i_faultAt h_i_isKnown h_i_toldMany h_x_7556 h_x_7557 c_7559_i hw_7589 c_7590_i h_7591; omega) | omega)) (by have z_0 := tk_0; (first | (clear h_p0 h_i_undoMany h_i_length h_i_size h_i_p h_i_at h_i_token h_i_number h_i_letterMany h_i_faultAt h_i_isKnown h_i_toldMany h_x_7556 h_x_7557 c_7559_i hw_7589 c_7590_i h_7591; omega) | omega)) (by (first | (clear h_p0 h_i_undoMany h_i_length h_i_size h_i_p h_i_at h_i_token h_i_number h_i_letterMany h_i_faultAt h_i_isKnown h_i_toldMany h_x_7556 h_x_7557 c_7559_i hw_7589 c_7590_i h_7591; omega) | omega)) (lv_sub hl [0, 1, 2, 3, 4] rfl)
              · skip
                have c_7590_i : (r_7588 : Int32).toInt = (0 : Int32).toInt := congrArg Int32.toInt c_7590
                have hw_7589_p1_u := (hw_7589_p1).get (c_7590_i.trans tk_0)
                have h_7592 : 0 ≤ (r_7588 : Int32).toInt ∧ (r_7588 : Int32).toInt ≤ 0 := nr_eq_l hw_7589 (⟨by decide, by decide⟩ : 0 ≤ (0 : Int32).toInt ∧ (0 : Int32).toInt ≤ 0) c_7590_i (by decide) (by decide)
                refine lv_aload_n hx hb dX12_comes_35 rfl (lv_at hl 3 rfl) ?_
                refine lv_iload hx hb dX12_comes_36 (lv_at hl 0 rfl) ?_
                have hPc := hP.sub (ws' := [(mm, .inr (12, (.int i_thrown :: .ref m_s :: .ref m_spare :: .ref m_kept :: .ref m_undone :: .ref m_triedWay :: .ref m_isKept :: .int i_undoMany :: .ref m_tape :: .int i_length :: .int i_size :: .int i_p :: .int i_at :: .int i_token :: .int i_number :: .int i_letterMany :: .int i_fault :: .int i_faultAt :: .ref m_letters :: .int i_isKnown :: .ref m_choice :: .ref m_row :: .ref m_up :: .ref m_low :: .ref m_m :: .ref m_bestUp :: .ref m_bestLow :: .ref m_replyUp :: .ref m_replyLow :: .ref m_worthUp :: .ref m_worthLow :: .ref m_bestWay :: .int i_seed :: .ref m_told :: .int i_toldMany :: []))), (m_s, .inl (g 0, 193, .inl sf)), (m_choice, .inl (g 0, 12, .inl chf))]) [0, 1, 2] rfl
                refine vp_callSi (va_Run.run (va_runV (As := [.int x_7582]) (rest := []) ⟨hx, hb, hml, hown, hts⟩ (c_X12_onBits l D g mm x_7582 i_thrown m_s m_spare m_kept m_undone m_triedWay m_isKept i_undoMany m_tape i_length i_size i_p i_at i_token i_number i_letterMany i_fault i_faultAt m_letters i_isKnown m_choice m_row m_up m_low m_m m_bestUp m_bestLow m_replyUp m_replyLow m_worthUp m_worthLow m_bestWay i_seed m_told i_toldMany sf chf (tr_w h_7586 (by decide) (by decide)) (tr_w h_i_undoMany (by decide) (by decide)) (tr_w h_i_length (by decide) (by decide)) (tr_w h_i_size (by decide) (by decide)) (tr_w h_i_p (by decide) (by decide)) (tr_w h_i_at (by decide) (by decide)) (tr_w h_i_token (by decide) (by decide)) (tr_w h_i_number (by decide) (by decide)) (tr_w h_i_letterMany (by decide) (by decide)) (tr_w h_i_faultAt (by decide) (by decide)) (tr_w h_i_isKnown (by decide) (by decide)) (tr_w h_i_toldMany (by decide) (by decide)) (tr_wa h_chf (by decide) (by decide)) hG) (cwV 1 hts (tz_gV qw_126 qw_127 qw_128 qw_3 qw_129) rfl rfl rfl (by decide +kernel) ⟨Nat.le_of_ble_eq_true rfl, Nat.le_of_ble_eq_true rfl⟩) ⟨tz_blS, va_recv hK hPc (ci := 12) (q0 := 0) rfl rfl, tz_preS hPc hK⟩ rfl rfl hl.1 rfl (lv_room (Nat.le_of_ble_eq_true rfl)) dX12_comes_38 ⟨Nat.le_of_ble_eq_true rfl, Nat.le_of_ble_eq_true rfl⟩)) (fun r_7594 hw => ?_)
                have hw_7595 : 0 ≤ (r_7594 : Int32).toInt ∧ (r_7594 : Int32).toInt ≤ 4095 := hw.1
                have hw_7595_p0 : ∀ j : Nat, bt r_7594 j ↔ ON sf chf (x_7582 : Int32).toInt.toNat j := hw.2
                refine lv_iload_n hx hb dX12_comes_41 rfl (lv_at hl 2 rfl) ?_
                refine lv_iand hx hb dX12_comes_42 ?_
                refine lv_topi (fun v_7596 v_7596_e => ?_)
                refine lv_if_eq (tgt := 53) hx hb dX12_comes_43 (by decide) (fun c_7597 => ?_) (fun c_7597 => ?_)
                · skip
                  have c_7597_i : (v_7596 : Int32).toInt = (0 : Int32).toInt := congrArg Int32.toInt c_7597
                  have h_7598 : 0 ≤ (v_7596 : Int32).toInt ∧ (v_7596 : Int32).toInt ≤ 0 := by rw [c_7597]; exact ⟨by decide, by decide⟩
                  obtain ⟨v_7599, v_7599_e⟩ : ∃ y : Int32, y = x_7582 + Int32.ofInt 1 := ⟨_, rfl⟩
                  have h_v_7599 : 1 ≤ (v_7599 : Int32).toInt ∧ (v_7599 : Int32).toInt ≤ 12 := by rw [v_7599_e]; exact tr_add h_7586 (⟨by decide, by decide⟩ : 1 ≤ (Int32.ofInt 1 : Int32).toInt ∧ (Int32.ofInt 1 : Int32).toInt ≤ 1) (by decide) (by decide) (by decide) (by decide)
                  have q_v_7599 : v_7599.toInt = x_7582.toInt + 1 := by rw [v_7599_e]; exact tr_addE h_7586 (⟨by decide, by decide⟩ : 1 ≤ (Int32.ofInt 1 : Int32).toInt ∧ (Int32.ofInt 1 : Int32).toInt ≤ 1) (by decide) (by decide)
                  refine lv_iinc (v := v_7599) (lv' := [(4, .int v_7599), (3, .int x_7556), (2, .int x_7581), (0, .ref mm), (1, .int p0)]) hx hb dX12_comes_53 hl (k := 0) rfl v_7599_e.symm (by decide) rfl (fun ls hl => ?_)
                  refine lv_goto (tgt := 14) hx hb dX12_comes_56 (by decide) ?_
                  exact ih_7583 x_7581 v_7599 ls (tr_w h_x_7581 (by decide) (by decide)) (tr_w h_v_7599 (by decide) (by decide)) hr7583_0 (CLm_not hr7583_1 h_x_7581 hw_7595_p0 hw_7595 (by rw [← v_7596_e]; exact c_7597) (by (first | (clear h_p0 h_i_undoMany h_i_length h_i_size h_i_p h_i_at h_i_token h_i_number h_i_letterMany h_i_faultAt h_i_isKnown h_i_toldMany h_x_7556 h_x_7557 c_7559_i hw_7589 c_7590_i h_7592 c_7597_i h_7598; omega) | omega))) (by have z_0 := tk_0; (first | (clear h_p0 h_i_undoMany h_i_length h_i_size h_i_p h_i_at h_i_token h_i_number h_i_letterMany h_i_faultAt h_i_isKnown h_i_toldMany h_x_7556 h_x_7557 c_7559_i hw_7589 c_7590_i h_7592 c_7597_i h_7598; omega) | omega)) (by have z_0 := tk_0; (first | (clear h_p0 h_i_undoMany h_i_length h_i_size h_i_p h_i_at h_i_token h_i_number h_i_letterMany h_i_faultAt h_i_isKnown h_i_toldMany h_x_7556 h_x_7557 c_7559_i hw_7589 c_7590_i h_7592 c_7597_i h_7598; omega) | omega)) (by (first | (clear h_p0 h_i_undoMany h_i_length h_i_size h_i_p h_i_at h_i_token h_i_number h_i_letterMany h_i_faultAt h_i_isKnown h_i_toldMany h_x_7556 h_x_7557 c_7559_i hw_7589 c_7590_i h_7592 c_7597_i h_7598; omega) | omega)) (lv_sub hl [0, 1, 2, 3, 4] rfl)
                · skip
                  have c_7597_i : ¬ (v_7596 : Int32).toInt = (0 : Int32).toInt := (fun q => c_7597 (Int32.toInt_inj.mp q))
                  refine lv_iload_n hx hb dX12_comes_46 rfl (lv_at hl 2 rfl) ?_
                  refine lv_iconst (v := 1) hx hb dX12_comes_47 (by decide) ?_
                  refine lv_iload hx hb dX12_comes_48 (lv_at hl 0 rfl) ?_
                  refine lv_ishl hx hb dX12_comes_50 ?_
                  refine lv_topi (fun v_7600 v_7600_e => ?_)
                  have h_v_7600 : 0 ≤ (v_7600 : Int32).toInt ∧ (v_7600 : Int32).toInt ≤ 4095 := by rw [v_7600_e]; exact tr_shl12 (tr_w h_7586 (by decide) (by decide))
                  refine lv_ior hx hb dX12_comes_51 ?_
                  refine lv_topi (fun v_7601 v_7601_e => ?_)
                  have h_v_7601 : 0 ≤ (v_7601 : Int32).toInt ∧ (v_7601 : Int32).toInt ≤ 4095 := by rw [v_7601_e]; exact (tr_or12 (tr_w h_x_7581 (by decide) (by decide)) (tr_w h_v_7600 (by decide) (by decide))).1
                  have o_v_7601 : (x_7581 : Int32).toInt ≤ (v_7601 : Int32).toInt := by rw [v_7601_e]; exact (tr_or12 (tr_w h_x_7581 (by decide) (by decide)) (tr_w h_v_7600 (by decide) (by decide))).2
                  refine lv_istore_n (lv' := [(2, .int v_7601), (4, .int x_7582), (3, .int x_7556), (0, .ref mm), (1, .int p0)]) hx hb dX12_comes_52 rfl hl (by decide) rfl (fun ls hl => ?_)
                  obtain ⟨v_7602, v_7602_e⟩ : ∃ y : Int32, y = x_7582 + Int32.ofInt 1 := ⟨_, rfl⟩
                  have h_v_7602 : 1 ≤ (v_7602 : Int32).toInt ∧ (v_7602 : Int32).toInt ≤ 12 := by rw [v_7602_e]; exact tr_add h_7586 (⟨by decide, by decide⟩ : 1 ≤ (Int32.ofInt 1 : Int32).toInt ∧ (Int32.ofInt 1 : Int32).toInt ≤ 1) (by decide) (by decide) (by decide) (by decide)
                  have q_v_7602 : v_7602.toInt = x_7582.toInt + 1 := by rw [v_7602_e]; exact tr_addE h_7586 (⟨by decide, by decide⟩ : 1 ≤ (Int32.ofInt 1 : Int32).toInt ∧ (Int32.ofInt 1 : Int32).toInt ≤ 1) (by decide) (by decide)
                  refine lv_iinc (v := v_7602) (lv' := [(4, .int v_7602), (2, .int v_7601), (3, .int x_7556), (0, .ref mm), (1, .int p0)]) hx hb dX12_comes_53 hl (k := 1) rfl v_7602_e.symm (by decide) rfl (fun ls hl => ?_)
                  refine lv_goto (tgt := 14) hx hb dX12_comes_56 (by decide) ?_
                  exact ih_7583 v_7601 v_7602 ls (tr_w h_v_7601 (by decide) (by decide)) (tr_w h_v_7602 (by decide) (by decide)) (LF_add (t := x_7582) hr7583_0 h_x_7581 h_7586 v_7600_e v_7601_e (by (first | (clear h_p0 h_i_undoMany h_i_length h_i_size h_i_p h_i_at h_i_token h_i_number h_i_letterMany h_i_faultAt h_i_isKnown h_i_toldMany h_x_7556 h_x_7557 c_7559_i hw_7589 c_7590_i h_7592 c_7597_i h_v_7600; omega) | omega)) (by (first | (clear h_p0 h_i_undoMany h_i_length h_i_size h_i_p h_i_at h_i_token h_i_number h_i_letterMany h_i_faultAt h_i_isKnown h_i_toldMany h_x_7556 h_x_7557 c_7559_i hw_7589 c_7590_i h_7592 c_7597_i h_v_7600; omega) | omega)) (by have z_0 := tk_0; (first | (clear h_p0 h_i_undoMany h_i_length h_i_size h_i_p h_i_at h_i_token h_i_number h_i_letterMany h_i_faultAt h_i_isKnown h_i_toldMany h_x_7556 h_x_7557 c_7559_i hw_7589 c_7590_i h_7592 c_7597_i h_v_7600; omega) | omega)) hw_7595_p0 hw_7595 (by rw [← v_7596_e]; exact c_7597)) (CLm_add (t := x_7582) hr7583_1 (by (first | (clear h_p0 h_i_undoMany h_i_length h_i_size h_i_p h_i_at h_i_token h_i_number h_i_letterMany h_i_faultAt h_i_isKnown h_i_toldMany h_x_7556 h_x_7557 c_7559_i hw_7589 c_7590_i h_7592 c_7597_i h_v_7600; omega) | omega)) h_x_7581 h_7586 v_7600_e v_7601_e (by (first | (clear h_p0 h_i_undoMany h_i_length h_i_size h_i_p h_i_at h_i_token h_i_number h_i_letterMany h_i_faultAt h_i_isKnown h_i_toldMany h_x_7556 h_x_7557 c_7559_i hw_7589 c_7590_i h_7592 c_7597_i h_v_7600; omega) | omega)) (by (first | (clear h_p0 h_i_undoMany h_i_length h_i_size h_i_p h_i_at h_i_token h_i_number h_i_letterMany h_i_faultAt h_i_isKnown h_i_toldMany h_x_7556 h_x_7557 c_7559_i hw_7589 c_7590_i h_7592 c_7597_i h_v_7600; omega) | omega))) (by have z_0 := tk_0; (first | (clear h_p0 h_i_undoMany h_i_length h_i_size h_i_p h_i_at h_i_token h_i_number h_i_letterMany h_i_faultAt h_i_isKnown h_i_toldMany h_x_7556 h_x_7557 c_7559_i hw_7589 c_7590_i h_7592 c_7597_i h_v_7600; omega) | omega)) (by have z_0 := tk_0; (first | (clear h_p0 h_i_undoMany h_i_length h_i_size h_i_p h_i_at h_i_token h_i_number h_i_letterMany h_i_faultAt h_i_isKnown h_i_toldMany h_x_7556 h_x_7557 c_7559_i hw_7589 c_7590_i h_7592 c_7597_i h_v_7600; omega) | omega)) (by (first | (clear h_p0 h_i_undoMany h_i_length h_i_size h_i_p h_i_at h_i_token h_i_number h_i_letterMany h_i_faultAt h_i_isKnown h_i_toldMany h_x_7556 h_x_7557 c_7559_i hw_7589 c_7590_i h_7592 c_7597_i h_v_7600; omega) | omega)) (lv_sub hl [0, 2, 1, 3, 4] rfl)
        exact lp_7583 13 x_7556 0 ls (tr_w h_x_7556 (by decide) (by decide)) (⟨by decide, by decide⟩ : 0 ≤ (0 : Int32).toInt ∧ (0 : Int32).toInt ≤ 12) hr7558_0 (fun _ => CLm_zero) (by have z_0 := tk_0; (first | (clear h_p0 h_i_undoMany h_i_length h_i_size h_i_p h_i_at h_i_token h_i_number h_i_letterMany h_i_faultAt h_i_isKnown h_i_toldMany; omega) | omega)) (by have z_0 := tk_0; (first | (clear h_p0 h_i_undoMany h_i_length h_i_size h_i_p h_i_at h_i_token h_i_number h_i_letterMany h_i_faultAt h_i_isKnown h_i_toldMany; omega) | omega)) (by decide) (lv_sub hl [0, 1, 2, 3, 4] rfl)
  exact lp_7558 4097 p0 0 ls (tr_w h_p0 (by decide) (by decide)) (⟨by decide, by decide⟩ : 0 ≤ (0 : Int32).toInt ∧ (0 : Int32).toInt ≤ 4095) LF_self CL_zero (by have z_0 := tk_0; (first | (clear h_i_undoMany h_i_length h_i_size h_i_p h_i_at h_i_token h_i_number h_i_letterMany h_i_faultAt h_i_isKnown h_i_toldMany; omega) | omega)) (by have z9_0 := tk_0; (first | (clear h_i_undoMany h_i_length h_i_size h_i_p h_i_at h_i_token h_i_number h_i_letterMany h_i_faultAt h_i_isKnown h_i_toldMany; omega) | omega)) (lv_sub hl [0, 1, 2, 3] rfl)
