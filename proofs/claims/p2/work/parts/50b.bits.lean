theorem qw_686 : Cond.methodLink RX12 197 yX12_to ∈ wsL_law := tseg_6 (by decide +kernel) (List.mem_of_getElem? (i := 106) (by decide +kernel))
theorem qw_687 : Cond.instanceMethod yX12_to ∈ wsL_law := tseg_6 (by decide +kernel) (List.mem_of_getElem? (i := 108) (by decide +kernel))
theorem qw_688 : Cond.selects RX12 yX12_to yX12_to ∈ wsL_law := List.mem_filter.mpr ⟨List.mem_append_left _ (List.mem_of_getElem? (i := 66) (by decide +kernel)), by decide +kernel⟩
theorem qw_689 : Cond.code yX12_to cX12_to 3 (some .int) ∈ wsL_law := tseg_6 (by decide +kernel) (List.mem_of_getElem? (i := 109) (by decide +kernel))
theorem qw_690 : Cond.fieldLink RX12 40 "ChanceRingsModel" "choice" "[I" ∈ wsL_law := tseg_5 (by decide +kernel) (List.mem_of_getElem? (i := 147) (by decide +kernel))
theorem qw_691 : Cond.methodLink RX12 208 yX12_onBits ∈ wsL_law := tseg_6 (by decide +kernel) (List.mem_of_getElem? (i := 149) (by decide +kernel))
theorem qw_692 : Cond.instanceMethod yX12_onBits ∈ wsL_law := tseg_6 (by decide +kernel) (List.mem_of_getElem? (i := 151) (by decide +kernel))
theorem qw_693 : Cond.selects RX12 yX12_onBits yX12_onBits ∈ wsL_law := List.mem_filter.mpr ⟨List.mem_append_left _ (List.mem_of_getElem? (i := 75) (by decide +kernel)), by decide +kernel⟩
theorem qw_694 : Cond.code yX12_onBits cX12_onBits 4 (some .int) ∈ wsL_law := tseg_6 (by decide +kernel) (List.mem_of_getElem? (i := 152) (by decide +kernel))
theorem dX12_bitOf_0 : decode cX12_bitOf 0 = .ok (.iload_n 0, 1) := by decide +kernel
theorem dX12_bitOf_1 : decode cX12_bitOf 1 = .ok (.iload_n 1, 1) := by decide +kernel
theorem dX12_bitOf_2 : decode cX12_bitOf 2 = .ok (.ishr, 1) := by decide +kernel
theorem dX12_bitOf_3 : decode cX12_bitOf 3 = .ok (.iconst 1, 1) := by decide +kernel
theorem dX12_bitOf_4 : decode cX12_bitOf 4 = .ok (.iand, 1) := by decide +kernel
theorem dX12_bitOf_5 : decode cX12_bitOf 5 = .ok (.iconst 1, 1) := by decide +kernel
theorem dX12_bitOf_6 : decode cX12_bitOf 6 = .ok (.if_icmp .ne 7, 3) := by decide +kernel
theorem dX12_bitOf_9 : decode cX12_bitOf 9 = .ok (.iconst 1, 1) := by decide +kernel
theorem dX12_bitOf_10 : decode cX12_bitOf 10 = .ok (.goto 4, 3) := by decide +kernel
theorem dX12_bitOf_13 : decode cX12_bitOf 13 = .ok (.iconst 0, 1) := by decide +kernel
theorem dX12_bitOf_14 : decode cX12_bitOf 14 = .ok (.ireturn, 1) := by decide +kernel
theorem dX12_comes_0 : decode cX12_comes 0 = .ok (.iload_n 1, 1) := by decide +kernel
theorem dX12_comes_1 : decode cX12_comes 1 = .ok (.istore_n 2, 1) := by decide +kernel
theorem dX12_comes_2 : decode cX12_comes 2 = .ok (.iconst 0, 1) := by decide +kernel
theorem dX12_comes_3 : decode cX12_comes 3 = .ok (.istore_n 3, 1) := by decide +kernel
theorem dX12_comes_4 : decode cX12_comes 4 = .ok (.iload_n 3, 1) := by decide +kernel
theorem dX12_comes_5 : decode cX12_comes 5 = .ok (.iload_n 2, 1) := by decide +kernel
theorem dX12_comes_6 : decode cX12_comes 6 = .ok (.if_icmp .eq 56, 3) := by decide +kernel
theorem dX12_comes_9 : decode cX12_comes 9 = .ok (.iload_n 2, 1) := by decide +kernel
theorem dX12_comes_10 : decode cX12_comes 10 = .ok (.istore_n 3, 1) := by decide +kernel
theorem dX12_comes_11 : decode cX12_comes 11 = .ok (.iconst 0, 1) := by decide +kernel
theorem dX12_comes_12 : decode cX12_comes 12 = .ok (.istore 4, 2) := by decide +kernel
theorem dX12_comes_14 : decode cX12_comes 14 = .ok (.iload 4, 2) := by decide +kernel
theorem dX12_comes_16 : decode cX12_comes 16 = .ok (.aload_n 0, 1) := by decide +kernel
theorem dX12_comes_17 : decode cX12_comes 17 = .ok (.getfield 13, 3) := by decide +kernel
theorem dX12_comes_20 : decode cX12_comes 20 = .ok (.iconst 0, 1) := by decide +kernel
theorem dX12_comes_21 : decode cX12_comes 21 = .ok (.iaload, 1) := by decide +kernel
theorem dX12_comes_22 : decode cX12_comes 22 = .ok (.if_icmp .ge 37, 3) := by decide +kernel
theorem dX12_comes_25 : decode cX12_comes 25 = .ok (.aload_n 0, 1) := by decide +kernel
theorem dX12_comes_26 : decode cX12_comes 26 = .ok (.iload 4, 2) := by decide +kernel
theorem dX12_comes_28 : decode cX12_comes 28 = .ok (.iconst 0, 1) := by decide +kernel
theorem dX12_comes_29 : decode cX12_comes 29 = .ok (.invokevirtual 187, 3) := by decide +kernel
theorem dX12_comes_32 : decode cX12_comes 32 = .ok (.ifCond .ne 21, 3) := by decide +kernel
theorem dX12_comes_35 : decode cX12_comes 35 = .ok (.aload_n 0, 1) := by decide +kernel
theorem dX12_comes_36 : decode cX12_comes 36 = .ok (.iload 4, 2) := by decide +kernel
theorem dX12_comes_38 : decode cX12_comes 38 = .ok (.invokevirtual 208, 3) := by decide +kernel
theorem dX12_comes_41 : decode cX12_comes 41 = .ok (.iload_n 2, 1) := by decide +kernel
theorem dX12_comes_42 : decode cX12_comes 42 = .ok (.iand, 1) := by decide +kernel
theorem dX12_comes_43 : decode cX12_comes 43 = .ok (.ifCond .eq 10, 3) := by decide +kernel
theorem dX12_comes_46 : decode cX12_comes 46 = .ok (.iload_n 2, 1) := by decide +kernel
theorem dX12_comes_47 : decode cX12_comes 47 = .ok (.iconst 1, 1) := by decide +kernel
theorem dX12_comes_48 : decode cX12_comes 48 = .ok (.iload 4, 2) := by decide +kernel
theorem dX12_comes_50 : decode cX12_comes 50 = .ok (.ishl, 1) := by decide +kernel
theorem dX12_comes_51 : decode cX12_comes 51 = .ok (.ior, 1) := by decide +kernel
theorem dX12_comes_52 : decode cX12_comes 52 = .ok (.istore_n 2, 1) := by decide +kernel
theorem dX12_comes_53 : decode cX12_comes 53 = .ok (.iinc 4 1, 3) := by decide +kernel
theorem dX12_comes_56 : decode cX12_comes 56 = .ok (.goto (-42), 3) := by decide +kernel
theorem dX12_comes_59 : decode cX12_comes 59 = .ok (.goto (-55), 3) := by decide +kernel
theorem dX12_comes_62 : decode cX12_comes 62 = .ok (.iload_n 2, 1) := by decide +kernel
theorem dX12_comes_63 : decode cX12_comes 63 = .ok (.ireturn, 1) := by decide +kernel
theorem dX12_ends_0 : decode cX12_ends 0 = .ok (.iconst 0, 1) := by decide +kernel
theorem dX12_ends_1 : decode cX12_ends 1 = .ok (.istore_n 1, 1) := by decide +kernel
theorem dX12_ends_2 : decode cX12_ends 2 = .ok (.iconst 0, 1) := by decide +kernel
theorem dX12_ends_3 : decode cX12_ends 3 = .ok (.istore_n 2, 1) := by decide +kernel
theorem dX12_ends_4 : decode cX12_ends 4 = .ok (.iload_n 2, 1) := by decide +kernel
theorem dX12_ends_5 : decode cX12_ends 5 = .ok (.aload_n 0, 1) := by decide +kernel
theorem dX12_ends_6 : decode cX12_ends 6 = .ok (.getfield 13, 3) := by decide +kernel
theorem dX12_ends_9 : decode cX12_ends 9 = .ok (.iconst 0, 1) := by decide +kernel
theorem dX12_ends_10 : decode cX12_ends 10 = .ok (.iaload, 1) := by decide +kernel
theorem dX12_ends_11 : decode cX12_ends 11 = .ok (.if_icmp .ge 28, 3) := by decide +kernel
theorem dX12_ends_14 : decode cX12_ends 14 = .ok (.iload_n 1, 1) := by decide +kernel
theorem dX12_ends_15 : decode cX12_ends 15 = .ok (.aload_n 0, 1) := by decide +kernel
theorem dX12_ends_16 : decode cX12_ends 16 = .ok (.iload_n 2, 1) := by decide +kernel
theorem dX12_ends_17 : decode cX12_ends 17 = .ok (.iconst 0, 1) := by decide +kernel
theorem dX12_ends_18 : decode cX12_ends 18 = .ok (.invokevirtual 187, 3) := by decide +kernel
theorem dX12_ends_21 : decode cX12_ends 21 = .ok (.ifCond .eq 9, 3) := by decide +kernel
theorem dX12_ends_24 : decode cX12_ends 24 = .ok (.iconst 1, 1) := by decide +kernel
theorem dX12_ends_25 : decode cX12_ends 25 = .ok (.iload_n 2, 1) := by decide +kernel
theorem dX12_ends_26 : decode cX12_ends 26 = .ok (.ishl, 1) := by decide +kernel
theorem dX12_ends_27 : decode cX12_ends 27 = .ok (.goto 4, 3) := by decide +kernel
theorem dX12_ends_30 : decode cX12_ends 30 = .ok (.iconst 0, 1) := by decide +kernel
theorem dX12_ends_31 : decode cX12_ends 31 = .ok (.ior, 1) := by decide +kernel
theorem dX12_ends_32 : decode cX12_ends 32 = .ok (.istore_n 1, 1) := by decide +kernel
theorem dX12_ends_33 : decode cX12_ends 33 = .ok (.iinc 2 1, 3) := by decide +kernel
theorem dX12_ends_36 : decode cX12_ends 36 = .ok (.goto (-32), 3) := by decide +kernel
theorem dX12_ends_39 : decode cX12_ends 39 = .ok (.iload_n 1, 1) := by decide +kernel
theorem dX12_ends_40 : decode cX12_ends 40 = .ok (.ireturn, 1) := by decide +kernel
theorem dX12_isPart_0 : decode cX12_isPart 0 = .ok (.iload_n 0, 1) := by decide +kernel
theorem dX12_isPart_1 : decode cX12_isPart 1 = .ok (.ifCond .eq 8, 3) := by decide +kernel
theorem dX12_isPart_4 : decode cX12_isPart 4 = .ok (.iload_n 0, 1) := by decide +kernel
theorem dX12_isPart_5 : decode cX12_isPart 5 = .ok (.iconst 1, 1) := by decide +kernel
theorem dX12_isPart_6 : decode cX12_isPart 6 = .ok (.if_icmp .ne 7, 3) := by decide +kernel
theorem dX12_isPart_9 : decode cX12_isPart 9 = .ok (.iconst 1, 1) := by decide +kernel
theorem dX12_isPart_10 : decode cX12_isPart 10 = .ok (.goto 4, 3) := by decide +kernel
theorem dX12_isPart_13 : decode cX12_isPart 13 = .ok (.iconst 0, 1) := by decide +kernel
theorem dX12_isPart_14 : decode cX12_isPart 14 = .ok (.ireturn, 1) := by decide +kernel
theorem dX12_onBits_0 : decode cX12_onBits 0 = .ok (.iconst 0, 1) := by decide +kernel
theorem dX12_onBits_1 : decode cX12_onBits 1 = .ok (.istore_n 2, 1) := by decide +kernel
theorem dX12_onBits_2 : decode cX12_onBits 2 = .ok (.iconst 0, 1) := by decide +kernel
theorem dX12_onBits_3 : decode cX12_onBits 3 = .ok (.istore_n 3, 1) := by decide +kernel
theorem dX12_onBits_4 : decode cX12_onBits 4 = .ok (.iload_n 3, 1) := by decide +kernel
theorem dX12_onBits_5 : decode cX12_onBits 5 = .ok (.aload_n 0, 1) := by decide +kernel
theorem dX12_onBits_6 : decode cX12_onBits 6 = .ok (.getfield 13, 3) := by decide +kernel
theorem dX12_onBits_9 : decode cX12_onBits 9 = .ok (.bipush 25, 2) := by decide +kernel
theorem dX12_onBits_11 : decode cX12_onBits 11 = .ok (.iload_n 1, 1) := by decide +kernel
theorem dX12_onBits_12 : decode cX12_onBits 12 = .ok (.iadd, 1) := by decide +kernel
theorem dX12_onBits_13 : decode cX12_onBits 13 = .ok (.iaload, 1) := by decide +kernel
theorem dX12_onBits_14 : decode cX12_onBits 14 = .ok (.if_icmp .ge 39, 3) := by decide +kernel
theorem dX12_onBits_17 : decode cX12_onBits 17 = .ok (.aload_n 0, 1) := by decide +kernel
theorem dX12_onBits_18 : decode cX12_onBits 18 = .ok (.iload_n 1, 1) := by decide +kernel
theorem dX12_onBits_19 : decode cX12_onBits 19 = .ok (.iconst 3, 1) := by decide +kernel
theorem dX12_onBits_20 : decode cX12_onBits 20 = .ok (.invokevirtual 187, 3) := by decide +kernel
theorem dX12_onBits_23 : decode cX12_onBits 23 = .ok (.ifCond .ne 13, 3) := by decide +kernel
theorem dX12_onBits_26 : decode cX12_onBits 26 = .ok (.aload_n 0, 1) := by decide +kernel
theorem dX12_onBits_27 : decode cX12_onBits 27 = .ok (.getfield 40, 3) := by decide +kernel
theorem dX12_onBits_30 : decode cX12_onBits 30 = .ok (.iload_n 1, 1) := by decide +kernel
theorem dX12_onBits_31 : decode cX12_onBits 31 = .ok (.iaload, 1) := by decide +kernel
theorem dX12_onBits_32 : decode cX12_onBits 32 = .ok (.iload_n 3, 1) := by decide +kernel
theorem dX12_onBits_33 : decode cX12_onBits 33 = .ok (.if_icmp .ne 14, 3) := by decide +kernel
theorem dX12_onBits_36 : decode cX12_onBits 36 = .ok (.iload_n 2, 1) := by decide +kernel
theorem dX12_onBits_37 : decode cX12_onBits 37 = .ok (.iconst 1, 1) := by decide +kernel
theorem dX12_onBits_38 : decode cX12_onBits 38 = .ok (.aload_n 0, 1) := by decide +kernel
theorem dX12_onBits_39 : decode cX12_onBits 39 = .ok (.iload_n 1, 1) := by decide +kernel
theorem dX12_onBits_40 : decode cX12_onBits 40 = .ok (.iload_n 3, 1) := by decide +kernel
theorem dX12_onBits_41 : decode cX12_onBits 41 = .ok (.invokevirtual 197, 3) := by decide +kernel
theorem dX12_onBits_44 : decode cX12_onBits 44 = .ok (.ishl, 1) := by decide +kernel
theorem dX12_onBits_45 : decode cX12_onBits 45 = .ok (.ior, 1) := by decide +kernel
theorem dX12_onBits_46 : decode cX12_onBits 46 = .ok (.istore_n 2, 1) := by decide +kernel
theorem dX12_onBits_47 : decode cX12_onBits 47 = .ok (.iinc 3 1, 3) := by decide +kernel
theorem dX12_onBits_50 : decode cX12_onBits 50 = .ok (.goto (-46), 3) := by decide +kernel
theorem dX12_onBits_53 : decode cX12_onBits 53 = .ok (.iload_n 2, 1) := by decide +kernel
theorem dX12_onBits_54 : decode cX12_onBits 54 = .ok (.ireturn, 1) := by decide +kernel
set_option maxHeartbeats 4000000 in
set_option maxRecDepth 100000 in
theorem c_X12_isPart (l : Launch) (D : va_G) (g : Nat → ClassId) (p0 : Int32) : Met l yX12_isPart (.code yX12_isPart cX12_isPart 1 (some .boolean) :: wsL_law) ({ frames := 0, cells := 0, slots := 0, locals := 0 }) (va_Pc [.int p0] (fun U => va_P D vwCl [] U.heap ∧ va_K D vwCl (TY g) U)) (vp_Si (fun r => (0 ≤ (r : Int32).toInt ∧ (r : Int32).toInt ≤ 1) ∧ (Hide (¬ (r : Int32).toInt = 0 → (p0 : Int32).toInt = 0 ∨ (p0 : Int32).toInt = 1)))) 0 0 (fun _ => False) := by
  refine Met.ofW (cc := cX12_isPart) (maxL := 1) (ret := (some .boolean)) (by decide) rfl ?_
  intro p e s m args below meth c s₁ B hml hv
  obtain ⟨ha, hP, hK⟩ := hv
  have hx := B.exec
  have hb := B.bytes
  have hr := B.returns
  have hts0 := atoms_spec (ws := (.code yX12_isPart cX12_isPart 1 (some .boolean) :: wsL_law)) B.pre
  have hts : ∀ w ∈ wsL_law, w.before args s = true := fun w h => hts0 w (List.mem_cons_of_mem _ h)
  have hown : s.vm.findClass RX12 = some m.cls := findClass_of_methodNamed B.named
  have hlocks := B.notSynchronized
  have hP : va_P D vwCl [] s.heap := hP
  refine W.eq (g2 := entryFrame m ([.int p0] : List Value).toArray 1) (by rw [ha]) ?_
  have hl := lv_entry ([.int p0]) (n := 1) (Nat.le_of_ble_eq_true rfl)
  rw [lg_entry_eq]
  generalize (lg_sl ([.int p0]) ++ List.replicate (1 - (lg_sl ([.int p0])).length) Slot.unset).toArray = ls at hl ⊢
  have hl : lv_has ls 1 [(0, .int p0)] := hl
  refine lv_iload_n hx hb dX12_isPart_0 rfl (lv_at hl 0 rfl) ?_
  refine lv_if_eq (tgt := 9) hx hb dX12_isPart_1 (by decide) (fun c_74622 => ?_) (fun c_74622 => ?_)
  · skip
    have kk_0 := tk_0
    have c_74622_i := c_74622
    have c_74622_i : (p0 : Int32).toInt = (0 : Int32).toInt := congrArg Int32.toInt c_74622
    have h_74623 : 0 ≤ (p0 : Int32).toInt ∧ (p0 : Int32).toInt ≤ 0 := by rw [c_74622]; exact ⟨by decide, by decide⟩
    refine lv_iconst (v := 1) hx hb dX12_isPart_9 (by decide) ?_
    refine lv_goto (tgt := 14) hx hb dX12_isPart_10 (by decide) ?_
    exact W.zret (v := 1) hx hb hr (by decide) (fun t ht hW => ⟨1, rfl, ⟨(⟨by decide, by decide⟩ : 0 ≤ (1 : Int32).toInt ∧ (1 : Int32).toInt ≤ 1), (fun h9 => (by have z_0 := tk_0; have z_1 := tk_1; omega))⟩, ht⟩) (fun _ h => nomatch h) dX12_isPart_14
  · skip
    have kk_0 := tk_0
    have c_74622_i := c_74622
    have c_74622_i : ¬ (p0 : Int32).toInt = (0 : Int32).toInt := (fun q => c_74622 (Int32.toInt_inj.mp q))
    refine lv_iload_n hx hb dX12_isPart_4 rfl (lv_at hl 0 rfl) ?_
    refine lv_iconst (v := 1) hx hb dX12_isPart_5 (by decide) ?_
    refine lv_icmp_ne (tgt := 13) hx hb dX12_isPart_6 (by decide) (fun c_74624 => ?_) (fun c_74624 => ?_)
    · skip
      have kk_1 := tk_1
      have c_74624_i := c_74624
      have c_74624_i : ¬ (p0 : Int32).toInt = (1 : Int32).toInt := (fun q => c_74624 (Int32.toInt_inj.mp q))
      refine lv_iconst (v := 0) hx hb dX12_isPart_13 (by decide) ?_
      exact W.zret (v := 0) hx hb hr (by decide) (fun t ht hW => ⟨0, rfl, ⟨(⟨by decide, by decide⟩ : 0 ≤ (0 : Int32).toInt ∧ (0 : Int32).toInt ≤ 1), (fun h9 => (by have z_0 := tk_0; have z_1 := tk_1; omega))⟩, ht⟩) (fun _ h => nomatch h) dX12_isPart_14
    · skip
      have kk_1 := tk_1
      have c_74624_i := c_74624
      have c_74624_i : (p0 : Int32).toInt = (1 : Int32).toInt := congrArg Int32.toInt c_74624
      have h_74625 : 1 ≤ (p0 : Int32).toInt ∧ (p0 : Int32).toInt ≤ 1 := by rw [c_74624]; exact ⟨by decide, by decide⟩
      refine lv_iconst (v := 1) hx hb dX12_isPart_9 (by decide) ?_
      refine lv_goto (tgt := 14) hx hb dX12_isPart_10 (by decide) ?_
      exact W.zret (v := 1) hx hb hr (by decide) (fun t ht hW => ⟨1, rfl, ⟨(⟨by decide, by decide⟩ : 0 ≤ (1 : Int32).toInt ∧ (1 : Int32).toInt ≤ 1), (fun h9 => (by have z_0 := tk_0; have z_1 := tk_1; omega))⟩, ht⟩) (fun _ h => nomatch h) dX12_isPart_14
set_option maxHeartbeats 4000000 in
set_option maxRecDepth 100000 in
theorem c_X12_bitOf (l : Launch) (D : va_G) (g : Nat → ClassId) (p0 : Int32) (p1 : Int32) : Met l yX12_bitOf (.code yX12_bitOf cX12_bitOf 2 (some .boolean) :: wsL_law) ({ frames := 0, cells := 0, slots := 0, locals := 0 }) (va_Pc [.int p0, .int p1] (fun U => va_P D vwCl [] U.heap ∧ va_K D vwCl (TY g) U)) (vp_Si (fun r => 0 ≤ (r : Int32).toInt ∧ (r : Int32).toInt ≤ 1)) 0 0 (fun _ => False) := by
  refine Met.ofW (cc := cX12_bitOf) (maxL := 2) (ret := (some .boolean)) (by decide) rfl ?_
  intro p e s m args below meth c s₁ B hml hv
  obtain ⟨ha, hP, hK⟩ := hv
  have hx := B.exec
  have hb := B.bytes
  have hr := B.returns
  have hts0 := atoms_spec (ws := (.code yX12_bitOf cX12_bitOf 2 (some .boolean) :: wsL_law)) B.pre
  have hts : ∀ w ∈ wsL_law, w.before args s = true := fun w h => hts0 w (List.mem_cons_of_mem _ h)
  have hown : s.vm.findClass RX12 = some m.cls := findClass_of_methodNamed B.named
  have hlocks := B.notSynchronized
  have hP : va_P D vwCl [] s.heap := hP
  refine W.eq (g2 := entryFrame m ([.int p0, .int p1] : List Value).toArray 2) (by rw [ha]) ?_
  have hl := lv_entry ([.int p0, .int p1]) (n := 2) (Nat.le_of_ble_eq_true rfl)
  rw [lg_entry_eq]
  generalize (lg_sl ([.int p0, .int p1]) ++ List.replicate (2 - (lg_sl ([.int p0, .int p1])).length) Slot.unset).toArray = ls at hl ⊢
  have hl : lv_has ls 2 [(0, .int p0), (1, .int p1)] := hl
  refine lv_iload_n hx hb dX12_bitOf_0 rfl (lv_at hl 0 rfl) ?_
  refine lv_iload_n hx hb dX12_bitOf_1 rfl (lv_at hl 1 rfl) ?_
  refine lv_ishr hx hb dX12_bitOf_2 ?_
  refine lv_topi (fun v_74626 v_74626_e => ?_)
  refine lv_iconst (v := 1) hx hb dX12_bitOf_3 (by decide) ?_
  refine lv_iand hx hb dX12_bitOf_4 ?_
  refine lv_topi (fun v_74627 v_74627_e => ?_)
  refine lv_iconst (v := 1) hx hb dX12_bitOf_5 (by decide) ?_
  refine lv_icmp_ne (tgt := 13) hx hb dX12_bitOf_6 (by decide) (fun c_74628 => ?_) (fun c_74628 => ?_)
  · skip
    have kk_1 := tk_1
    have c_74628_i := c_74628
    have c_74628_i : ¬ (v_74627 : Int32).toInt = (1 : Int32).toInt := (fun q => c_74628 (Int32.toInt_inj.mp q))
    refine lv_iconst (v := 0) hx hb dX12_bitOf_13 (by decide) ?_
    exact W.zret (v := 0) hx hb hr (by decide) (fun t ht hW => ⟨0, rfl, (⟨by decide, by decide⟩ : 0 ≤ (0 : Int32).toInt ∧ (0 : Int32).toInt ≤ 1), ht⟩) (fun _ h => nomatch h) dX12_bitOf_14
  · skip
    have kk_1 := tk_1
    have c_74628_i := c_74628
    have c_74628_i : (v_74627 : Int32).toInt = (1 : Int32).toInt := congrArg Int32.toInt c_74628
    have h_74629 : 1 ≤ (v_74627 : Int32).toInt ∧ (v_74627 : Int32).toInt ≤ 1 := by rw [c_74628]; exact ⟨by decide, by decide⟩
    refine lv_iconst (v := 1) hx hb dX12_bitOf_9 (by decide) ?_
    refine lv_goto (tgt := 14) hx hb dX12_bitOf_10 (by decide) ?_
    exact W.zret (v := 1) hx hb hr (by decide) (fun t ht hW => ⟨1, rfl, (⟨by decide, by decide⟩ : 0 ≤ (1 : Int32).toInt ∧ (1 : Int32).toInt ≤ 1), ht⟩) (fun _ h => nomatch h) dX12_bitOf_14
set_option maxHeartbeats 4000000 in
set_option maxRecDepth 100000 in
theorem c_X12_bitOf2 (l : Launch) (D : va_G) (g : Nat → ClassId) (p0 : Int32) (p1 : Int32) (h_p0 : 0 ≤ (p0 : Int32).toInt ∧ (p0 : Int32).toInt ≤ 4095) (h_p1 : 0 ≤ (p1 : Int32).toInt ∧ (p1 : Int32).toInt ≤ 11) : Met l yX12_bitOf (.code yX12_bitOf cX12_bitOf 2 (some .boolean) :: wsL_law) ({ frames := 0, cells := 0, slots := 0, locals := 0 }) (va_Pc [.int p0, .int p1] (fun U => va_P D vwCl [] U.heap ∧ va_K D vwCl (TY g) U)) (vp_Si (fun r => (0 ≤ (r : Int32).toInt ∧ (r : Int32).toInt ≤ 1) ∧ (Hide (¬ (r : Int32).toInt = 0 → bt p0 (p1 : Int32).toInt.toNat)) ∧ (Hide ((r : Int32).toInt = 0 → ¬ bt p0 (p1 : Int32).toInt.toNat)))) 0 0 (fun _ => False) := by
  refine Met.ofW (cc := cX12_bitOf) (maxL := 2) (ret := (some .boolean)) (by decide) rfl ?_
  intro p e s m args below meth c s₁ B hml hv
  obtain ⟨ha, hP, hK⟩ := hv
  have hx := B.exec
  have hb := B.bytes
  have hr := B.returns
  have hts0 := atoms_spec (ws := (.code yX12_bitOf cX12_bitOf 2 (some .boolean) :: wsL_law)) B.pre
  have hts : ∀ w ∈ wsL_law, w.before args s = true := fun w h => hts0 w (List.mem_cons_of_mem _ h)
  have hown : s.vm.findClass RX12 = some m.cls := findClass_of_methodNamed B.named
  have hlocks := B.notSynchronized
  have hP : va_P D vwCl [] s.heap := hP
  refine W.eq (g2 := entryFrame m ([.int p0, .int p1] : List Value).toArray 2) (by rw [ha]) ?_
  have hl := lv_entry ([.int p0, .int p1]) (n := 2) (Nat.le_of_ble_eq_true rfl)
  rw [lg_entry_eq]
  generalize (lg_sl ([.int p0, .int p1]) ++ List.replicate (2 - (lg_sl ([.int p0, .int p1])).length) Slot.unset).toArray = ls at hl ⊢
  have hl : lv_has ls 2 [(0, .int p0), (1, .int p1)] := hl
  refine lv_iload_n hx hb dX12_bitOf_0 rfl (lv_at hl 0 rfl) ?_
  refine lv_iload_n hx hb dX12_bitOf_1 rfl (lv_at hl 1 rfl) ?_
  refine lv_ishr hx hb dX12_bitOf_2 ?_
  refine lv_topi (fun v_74630 v_74630_e => ?_)
  refine lv_iconst (v := 1) hx hb dX12_bitOf_3 (by decide) ?_
  refine lv_iand hx hb dX12_bitOf_4 ?_
  refine lv_topi (fun v_74631 v_74631_e => ?_)
  refine lv_iconst (v := 1) hx hb dX12_bitOf_5 (by decide) ?_
  refine lv_icmp_ne (tgt := 13) hx hb dX12_bitOf_6 (by decide) (fun c_74632 => ?_) (fun c_74632 => ?_)
  · skip
    have kk_1 := tk_1
    have c_74632_i := c_74632
    have c_74632_i : ¬ (v_74631 : Int32).toInt = (1 : Int32).toInt := (fun q => c_74632 (Int32.toInt_inj.mp q))
    refine lv_iconst (v := 0) hx hb dX12_bitOf_13 (by decide) ?_
    exact W.zret (v := 0) hx hb hr (by decide) (fun t ht hW => ⟨0, rfl, ⟨(⟨by decide, by decide⟩ : 0 ≤ (0 : Int32).toInt ∧ (0 : Int32).toInt ≤ 1), (fun h9 => absurd h9 (by decide)), (fun _ h8 => c_74632 (by rw [v_74631_e, v_74630_e]; exact (tr_bit h_p0 h_p1).mpr h8))⟩, ht⟩) (fun _ h => nomatch h) dX12_bitOf_14
  · skip
    have kk_1 := tk_1
    have c_74632_i := c_74632
    have c_74632_i : (v_74631 : Int32).toInt = (1 : Int32).toInt := congrArg Int32.toInt c_74632
    have h_74633 : 1 ≤ (v_74631 : Int32).toInt ∧ (v_74631 : Int32).toInt ≤ 1 := by rw [c_74632]; exact ⟨by decide, by decide⟩
    refine lv_iconst (v := 1) hx hb dX12_bitOf_9 (by decide) ?_
    refine lv_goto (tgt := 14) hx hb dX12_bitOf_10 (by decide) ?_
    exact W.zret (v := 1) hx hb hr (by decide) (fun t ht hW => ⟨1, rfl, ⟨(⟨by decide, by decide⟩ : 0 ≤ (1 : Int32).toInt ∧ (1 : Int32).toInt ≤ 1), (fun _ => (tr_bit h_p0 h_p1).mp (by rw [← v_74630_e, ← v_74631_e]; exact c_74632)), (fun h9 => absurd h9 (by decide))⟩, ht⟩) (fun _ h => nomatch h) dX12_bitOf_14
set_option maxHeartbeats 4000000 in
set_option maxRecDepth 100000 in
theorem c_X12_onBits (l : Launch) (D : va_G) (g : Nat → ClassId) (mm : Nat) (p0 : Int32) (i_thrown : Int32) (m_s : Nat) (m_spare : Nat) (m_kept : Nat) (m_undone : Nat) (m_triedWay : Nat) (m_isKept : Nat) (i_undoMany : Int32) (m_tape : Nat) (i_length : Int32) (i_size : Int32) (i_p : Int32) (i_at : Int32) (i_token : Int32) (i_number : Int32) (i_letterMany : Int32) (i_fault : Int32) (i_faultAt : Int32) (m_letters : Nat) (i_isKnown : Int32) (m_choice : Nat) (m_row : Nat) (m_up : Nat) (m_low : Nat) (m_m : Nat) (m_bestUp : Nat) (m_bestLow : Nat) (m_replyUp : Nat) (m_replyLow : Nat) (m_worthUp : Nat) (m_worthLow : Nat) (m_bestWay : Nat) (i_seed : Int32) (m_told : Nat) (i_toldMany : Int32) (sf : Nat → Int32) (chf : Nat → Int32) (h_p0 : 0 ≤ (p0 : Int32).toInt ∧ (p0 : Int32).toInt ≤ 11) (h_i_undoMany : 0 ≤ (i_undoMany : Int32).toInt ∧ (i_undoMany : Int32).toInt ≤ 8) (h_i_length : 0 ≤ (i_length : Int32).toInt ∧ (i_length : Int32).toInt ≤ 440) (h_i_size : 0 ≤ (i_size : Int32).toInt ∧ (i_size : Int32).toInt ≤ 440) (h_i_p : 0 ≤ (i_p : Int32).toInt ∧ (i_p : Int32).toInt ≤ 440) (h_i_at : 0 ≤ (i_at : Int32).toInt ∧ (i_at : Int32).toInt ≤ 440) (h_i_token : 0 ≤ (i_token : Int32).toInt ∧ (i_token : Int32).toInt ≤ 4) (h_i_number : 0 ≤ (i_number : Int32).toInt ∧ (i_number : Int32).toInt ≤ 814) (h_i_letterMany : (-440) ≤ (i_letterMany : Int32).toInt ∧ (i_letterMany : Int32).toInt ≤ 440) (h_i_isKnown : 0 ≤ (i_isKnown : Int32).toInt ∧ (i_isKnown : Int32).toInt ≤ 1) (h_i_toldMany : 0 ≤ (i_toldMany : Int32).toInt ∧ (i_toldMany : Int32).toInt ≤ 900) (h_chf : ∀ j : Nat, 0 ≤ (chf j).toInt ∧ (chf j).toInt ≤ 2) (hG : GS sf) : Met l yX12_onBits (.code yX12_onBits cX12_onBits 4 (some .int) :: wsL_law) ({ frames := 1, cells := 0, slots := 0, locals := 22 }) (va_Pc [.ref mm, .int p0] (fun U => va_P D vwCl [(mm, .inr (12, (.int i_thrown :: .ref m_s :: .ref m_spare :: .ref m_kept :: .ref m_undone :: .ref m_triedWay :: .ref m_isKept :: .int i_undoMany :: .ref m_tape :: .int i_length :: .int i_size :: .int i_p :: .int i_at :: .int i_token :: .int i_number :: .int i_letterMany :: .int i_fault :: .int i_faultAt :: .ref m_letters :: .int i_isKnown :: .ref m_choice :: .ref m_row :: .ref m_up :: .ref m_low :: .ref m_m :: .ref m_bestUp :: .ref m_bestLow :: .ref m_replyUp :: .ref m_replyLow :: .ref m_worthUp :: .ref m_worthLow :: .ref m_bestWay :: .int i_seed :: .ref m_told :: .int i_toldMany :: []))), (m_s, .inl (g 0, 193, .inl sf)), (m_choice, .inl (g 0, 12, .inl chf))] U.heap ∧ va_K D vwCl (TY g) U)) (vp_Si (fun r => (0 ≤ (r : Int32).toInt ∧ (r : Int32).toInt ≤ 4095) ∧ (∀ j : Nat, bt r j ↔ ON sf chf (p0 : Int32).toInt.toNat j))) 0 0 (fun _ => False) := by
  refine Met.ofW (cc := cX12_onBits) (maxL := 4) (ret := (some .int)) (by decide) rfl ?_
  intro p e s m args below meth c s₁ B hml hv
  obtain ⟨ha, hP, hK⟩ := hv
  have hx := B.exec
  have hb := B.bytes
  have hr := B.returns
  have hts0 := atoms_spec (ws := (.code yX12_onBits cX12_onBits 4 (some .int) :: wsL_law)) B.pre
  have hts : ∀ w ∈ wsL_law, w.before args s = true := fun w h => hts0 w (List.mem_cons_of_mem _ h)
  have hown : s.vm.findClass RX12 = some m.cls := findClass_of_methodNamed B.named
  have hlocks := B.notSynchronized
  have hP : va_P D vwCl [(mm, .inr (12, (.int i_thrown :: .ref m_s :: .ref m_spare :: .ref m_kept :: .ref m_undone :: .ref m_triedWay :: .ref m_isKept :: .int i_undoMany :: .ref m_tape :: .int i_length :: .int i_size :: .int i_p :: .int i_at :: .int i_token :: .int i_number :: .int i_letterMany :: .int i_fault :: .int i_faultAt :: .ref m_letters :: .int i_isKnown :: .ref m_choice :: .ref m_row :: .ref m_up :: .ref m_low :: .ref m_m :: .ref m_bestUp :: .ref m_bestLow :: .ref m_replyUp :: .ref m_replyLow :: .ref m_worthUp :: .ref m_worthLow :: .ref m_bestWay :: .int i_seed :: .ref m_told :: .int i_toldMany :: []))), (m_s, .inl (g 0, 193, .inl sf)), (m_choice, .inl (g 0, 12, .inl chf))] s.heap := hP
  refine W.eq (g2 := entryFrame m ([.ref mm, .int p0] : List Value).toArray 4) (by rw [ha]) ?_
  have hl := lv_entry ([.ref mm, .int p0]) (n := 4) (Nat.le_of_ble_eq_true rfl)
  rw [lg_entry_eq]
  generalize (lg_sl ([.ref mm, .int p0]) ++ List.replicate (4 - (lg_sl ([.ref mm, .int p0])).length) Slot.unset).toArray = ls at hl ⊢
  have hl : lv_has ls 4 [(0, .ref mm), (1, .int p0)] := hl
  refine lv_iconst (v := 0) hx hb dX12_onBits_0 (by decide) ?_
  refine lv_istore_n (lv' := [(2, .int 0), (0, .ref mm), (1, .int p0)]) hx hb dX12_onBits_1 rfl hl (by decide) rfl (fun ls hl => ?_)
  refine lv_iconst (v := 0) hx hb dX12_onBits_2 (by decide) ?_
  refine lv_istore_n (lv' := [(3, .int 0), (2, .int 0), (0, .ref mm), (1, .int p0)]) hx hb dX12_onBits_3 rfl hl (by decide) rfl (fun ls hl => ?_)
  have lp_74661 : ∀ (n_74661 : Nat) (x_74659 : Int32) (x_74660 : Int32) (ls : Array Slot), (0 ≤ (x_74659 : Int32).toInt ∧ (x_74659 : Int32).toInt ≤ 4095) → (0 ≤ (x_74660 : Int32).toInt ∧ (x_74660 : Int32).toInt ≤ 3) → (∀ j : Nat, bt x_74659 j ↔ ONi sf chf (p0 : Int32).toInt.toNat x_74660.toInt.toNat j) → (x_74660.toInt ≤ (sf (25 + (p0 : Int32).toInt.toNat)).toInt) → (3 - x_74660.toInt < (n_74661 : Int)) → lv_has ls 4 [(3, .int x_74660), (2, .int x_74659), (0, .ref mm), (1, .int p0)] → W p l e (headSpec (.code yX12_onBits cX12_onBits 4 (some .int) :: wsL_law) ({ frames := 1, cells := 0, slots := 0, locals := 22 })).room s m args below meth c s.heap [] 0 0 (MQ below (vp_Si (fun r => (0 ≤ (r : Int32).toInt ∧ (r : Int32).toInt ≤ 4095) ∧ (∀ j : Nat, bt r j ↔ ON sf chf (p0 : Int32).toInt.toNat j))) args s 0 0 (fun _ => False)) (F0 m 4 ls []) := by
    intro n_74661
    induction n_74661 with
    | zero =>
      intro x_74659 x_74660 ls h_x_74659 h_x_74660 hr74661_0 hr74661_1 hm_74661 hl
      exfalso; omega
    | succ n_74661 ih_74661 =>
      intro x_74659 x_74660 ls h_x_74659 h_x_74660 hr74661_0 hr74661_1 hm_74661 hl
      refine lv_iload_n hx hb dX12_onBits_4 rfl (lv_at hl 0 rfl) ?_
      refine lv_aload_n hx hb dX12_onBits_5 rfl (lv_at hl 2 rfl) ?_
      refine va_get (D := D) (ci := 12) (v := .ref m_s) (C := RX12) (T := TX12) (N := 35) hx hb hts inlX12 hown hK hP 0 rfl rfl 1 (by decide) (hts (Cond.fieldLink RX12 13 "ChanceRingsModel" "s" "[I") qw_638) (fun _ h9 => h9) rfl dX12_onBits_6 ?_
      refine lv_bipush (v := 25) hx hb dX12_onBits_9 (by decide) ?_
      refine lv_iload_n hx hb dX12_onBits_11 rfl (lv_at hl 3 rfl) ?_
      refine lv_iadd hx hb dX12_onBits_12 ?_
      refine lv_topi (fun v_74662 v_74662_e => ?_)
      have h_v_74662 : 25 ≤ (v_74662 : Int32).toInt ∧ (v_74662 : Int32).toInt ≤ 36 := by rw [v_74662_e]; exact tr_add (⟨by decide, by decide⟩ : 25 ≤ (25 : Int32).toInt ∧ (25 : Int32).toInt ≤ 25) h_p0 (by decide) (by decide) (by decide) (by decide)
      have q_v_74662 : v_74662.toInt = 25 + p0.toInt := by rw [v_74662_e]; exact (tr_addX (⟨by decide, by decide⟩ : 25 ≤ (25 : Int32).toInt ∧ (25 : Int32).toInt ≤ 25) h_p0 (by decide) (by decide)).trans (by rw [tk_25])
      refine va_iald hx hb hK hP 1 0 rfl rfl (tr_in h_v_74662 (by decide) (by decide)) dX12_onBits_13 ?_
      refine lv_topi (fun v_74663 v_74663_e => ?_)
      have h_v_74663 : 0 ≤ (v_74663 : Int32).toInt ∧ (v_74663 : Int32).toInt ≤ 3 := by rw [v_74663_e]; exact gr_ways hG.r (tr_w h_v_74662 (by decide) (by decide))
      have g_v_74663 : v_74663 = sf (25 + p0.toInt.toNat) := v_74663_e.trans (congrArg sf (by show Int.toNat _ = _; omega))
      have gi_v_74663 := congrArg Int32.toInt g_v_74663
      refine lv_icmp_ge (tgt := 53) hx hb dX12_onBits_14 (by decide) (fun c_74664 => ?_) (fun c_74664 => ?_)
      · skip
        have c_74664_i := Int32.le_iff_toInt_le.mp c_74664
        refine lv_iload_n hx hb dX12_onBits_53 rfl (lv_at hl 1 rfl) ?_
        exact W.iret (v := x_74659) hx hb hr (fun t ht hW => ⟨x_74659, rfl, ⟨(tr_w h_x_74659 (by decide) (by decide)), (on_done hr74661_0 (by omega))⟩, ht⟩) (fun _ h => nomatch h) dX12_onBits_54
      · skip
        have c_74664_i := Int32.lt_iff_toInt_lt.mp (Int32.not_le.mp c_74664)
        have c_74664_i := Int32.lt_iff_toInt_lt.mp (Int32.not_le.mp c_74664)
        have h_74665 : 0 ≤ (x_74660 : Int32).toInt ∧ (x_74660 : Int32).toInt ≤ 2 := by have q1 := h_x_74660; have q2 := h_v_74663; omega
        have h_74666 : 1 ≤ (v_74663 : Int32).toInt ∧ (v_74663 : Int32).toInt ≤ 3 := by have q1 := h_x_74660; have q2 := h_v_74663; omega
        refine lv_aload_n hx hb dX12_onBits_17 rfl (lv_at hl 2 rfl) ?_
        refine lv_iload_n hx hb dX12_onBits_18 rfl (lv_at hl 3 rfl) ?_
        refine lv_iconst (v := 3) hx hb dX12_onBits_19 (by decide) ?_
        have hPc := hP.sub (ws' := [(mm, .inr (12, (.int i_thrown :: .ref m_s :: .ref m_spare :: .ref m_kept :: .ref m_undone :: .ref m_triedWay :: .ref m_isKept :: .int i_undoMany :: .ref m_tape :: .int i_length :: .int i_size :: .int i_p :: .int i_at :: .int i_token :: .int i_number :: .int i_letterMany :: .int i_fault :: .int i_faultAt :: .ref m_letters :: .int i_isKnown :: .ref m_choice :: .ref m_row :: .ref m_up :: .ref m_low :: .ref m_m :: .ref m_bestUp :: .ref m_bestLow :: .ref m_replyUp :: .ref m_replyLow :: .ref m_worthUp :: .ref m_worthLow :: .ref m_bestWay :: .int i_seed :: .ref m_told :: .int i_toldMany :: []))), (m_s, .inl (g 0, 193, .inl sf))]) [0, 1] rfl
        refine vp_callSi (va_Run.run (va_runV (As := [.int p0, .int 3]) (rest := []) ⟨hx, hb, hml, hown, hts⟩ (c_X12_isKind l D g mm p0 3 i_thrown m_s m_spare m_kept m_undone m_triedWay m_isKept i_undoMany m_tape i_length i_size i_p i_at i_token i_number i_letterMany i_fault i_faultAt m_letters i_isKnown m_choice m_row m_up m_low m_m m_bestUp m_bestLow m_replyUp m_replyLow m_worthUp m_worthLow m_bestWay i_seed m_told i_toldMany sf (tr_w h_p0 (by decide) (by decide)) (tr_w h_i_undoMany (by decide) (by decide)) (tr_w h_i_length (by decide) (by decide)) (tr_w h_i_size (by decide) (by decide)) (tr_w h_i_p (by decide) (by decide)) (tr_w h_i_at (by decide) (by decide)) (tr_w h_i_token (by decide) (by decide)) (tr_w h_i_number (by decide) (by decide)) (tr_w h_i_letterMany (by decide) (by decide)) (tr_w h_i_isKnown (by decide) (by decide)) (tr_w h_i_toldMany (by decide) (by decide)) hG) (cwV 2 hts (tz_gV qw_659 qw_660 qw_661 qw_568 qw_662) rfl rfl rfl (by decide +kernel) ⟨Nat.le_of_ble_eq_true rfl, Nat.le_of_ble_eq_true rfl⟩) ⟨tz_blS, va_recv hK hPc (ci := 12) (q0 := 0) rfl rfl, tz_preS hPc hK⟩ rfl rfl hl.1 rfl (lv_room (Nat.le_of_ble_eq_true rfl)) dX12_onBits_20 ⟨Nat.le_of_ble_eq_true rfl, Nat.le_of_ble_eq_true rfl⟩)) (fun r_74667 hw => ?_)
        have kk_3 := tk_3
        have hw_74668 : 0 ≤ (r_74667 : Int32).toInt ∧ (r_74667 : Int32).toInt ≤ 1 := hw.1
        have hw_74668_p0 : Hide (¬ (r_74667 : Int32).toInt = 0 → (sf (1 + (p0 : Int32).toInt.toNat)).toInt = (3 : Int32).toInt) := hw.2.1
        have hw_74668_p1 : Hide ((r_74667 : Int32).toInt = 0 → ¬ (sf (1 + (p0 : Int32).toInt.toNat)).toInt = (3 : Int32).toInt) := hw.2.2
        refine lv_if_ne (tgt := 36) hx hb dX12_onBits_23 (by decide) (fun c_74669 => ?_) (fun c_74669 => ?_)
        · skip
          have kk_0 := tk_0
          have c_74669_i := c_74669
          have c_74669_i : ¬ (r_74667 : Int32).toInt = (0 : Int32).toInt := (fun q => c_74669 (Int32.toInt_inj.mp q))
          have hw_74668_p0_u := (hw_74668_p0).get (fun q => c_74669_i (q.trans tk_0.symm))
          have c_74669_i := c_74669
          have c_74669_i : ¬ (r_74667 : Int32).toInt = (0 : Int32).toInt := (fun q => c_74669 (Int32.toInt_inj.mp q))
          have h_74670 : 1 ≤ (r_74667 : Int32).toInt ∧ (r_74667 : Int32).toInt ≤ 1 := by have q1 := hw_74668; have q2 := (⟨by decide, by decide⟩ : 0 ≤ (0 : Int32).toInt ∧ (0 : Int32).toInt ≤ 0); omega
          refine lv_iload_n hx hb dX12_onBits_36 rfl (lv_at hl 1 rfl) ?_
          refine lv_iconst (v := 1) hx hb dX12_onBits_37 (by decide) ?_
          refine lv_aload_n hx hb dX12_onBits_38 rfl (lv_at hl 2 rfl) ?_
          refine lv_iload_n hx hb dX12_onBits_39 rfl (lv_at hl 3 rfl) ?_
          refine lv_iload_n hx hb dX12_onBits_40 rfl (lv_at hl 0 rfl) ?_
          have hPc := hP.sub (ws' := [(mm, .inr (12, (.int i_thrown :: .ref m_s :: .ref m_spare :: .ref m_kept :: .ref m_undone :: .ref m_triedWay :: .ref m_isKept :: .int i_undoMany :: .ref m_tape :: .int i_length :: .int i_size :: .int i_p :: .int i_at :: .int i_token :: .int i_number :: .int i_letterMany :: .int i_fault :: .int i_faultAt :: .ref m_letters :: .int i_isKnown :: .ref m_choice :: .ref m_row :: .ref m_up :: .ref m_low :: .ref m_m :: .ref m_bestUp :: .ref m_bestLow :: .ref m_replyUp :: .ref m_replyLow :: .ref m_worthUp :: .ref m_worthLow :: .ref m_bestWay :: .int i_seed :: .ref m_told :: .int i_toldMany :: []))), (m_s, .inl (g 0, 193, .inl sf))]) [0, 1] rfl
          refine vp_callSi (va_Run.run (va_runV (As := [.int p0, .int x_74660]) (rest := [.int 1, .int x_74659]) ⟨hx, hb, hml, hown, hts⟩ (c_X12_to l D g mm p0 x_74660 i_thrown m_s m_spare m_kept m_undone m_triedWay m_isKept i_undoMany m_tape i_length i_size i_p i_at i_token i_number i_letterMany i_fault i_faultAt m_letters i_isKnown m_choice m_row m_up m_low m_m m_bestUp m_bestLow m_replyUp m_replyLow m_worthUp m_worthLow m_bestWay i_seed m_told i_toldMany sf (tr_w h_p0 (by decide) (by decide)) (tr_w h_74665 (by decide) (by decide)) (tr_w h_i_undoMany (by decide) (by decide)) (tr_w h_i_length (by decide) (by decide)) (tr_w h_i_size (by decide) (by decide)) (tr_w h_i_p (by decide) (by decide)) (tr_w h_i_at (by decide) (by decide)) (tr_w h_i_token (by decide) (by decide)) (tr_w h_i_number (by decide) (by decide)) (tr_w h_i_letterMany (by decide) (by decide)) (tr_w h_i_isKnown (by decide) (by decide)) (tr_w h_i_toldMany (by decide) (by decide)) hG) (cwV 2 hts (tz_gV qw_686 qw_687 qw_688 qw_568 qw_689) rfl rfl rfl (by decide +kernel) ⟨Nat.le_of_ble_eq_true rfl, Nat.le_of_ble_eq_true rfl⟩) ⟨tz_blS, va_recv hK hPc (ci := 12) (q0 := 0) rfl rfl, tz_preS hPc hK⟩ rfl rfl hl.1 rfl (lv_room (Nat.le_of_ble_eq_true rfl)) dX12_onBits_41 ⟨Nat.le_of_ble_eq_true rfl, Nat.le_of_ble_eq_true rfl⟩)) (fun r_74672 hw => ?_)
          have hw_74673 : 0 ≤ (r_74672 : Int32).toInt ∧ (r_74672 : Int32).toInt ≤ 11 := hw.1
          have hw_74673_p0 : (r_74672 : Int32) = sf (37 + 3 * (p0 : Int32).toInt.toNat + (x_74660 : Int32).toInt.toNat) := hw.2
          refine lv_ishl hx hb dX12_onBits_44 ?_
          refine lv_topi (fun v_74674 v_74674_e => ?_)
          have h_v_74674 : 0 ≤ (v_74674 : Int32).toInt ∧ (v_74674 : Int32).toInt ≤ 4095 := by rw [v_74674_e]; exact tr_shl12 (tr_w hw_74673 (by decide) (by decide))
          refine lv_ior hx hb dX12_onBits_45 ?_
          refine lv_topi (fun v_74675 v_74675_e => ?_)
          have h_v_74675 : 0 ≤ (v_74675 : Int32).toInt ∧ (v_74675 : Int32).toInt ≤ 4095 := by rw [v_74675_e]; exact (tr_or12 (tr_w h_x_74659 (by decide) (by decide)) (tr_w h_v_74674 (by decide) (by decide))).1
          have o_v_74675 : (x_74659 : Int32).toInt ≤ (v_74675 : Int32).toInt := by rw [v_74675_e]; exact (tr_or12 (tr_w h_x_74659 (by decide) (by decide)) (tr_w h_v_74674 (by decide) (by decide))).2
          refine lv_istore_n (lv' := [(2, .int v_74675), (3, .int x_74660), (0, .ref mm), (1, .int p0)]) hx hb dX12_onBits_46 rfl hl (by decide) rfl (fun ls hl => ?_)
          obtain ⟨v_74676, v_74676_e⟩ : ∃ y : Int32, y = x_74660 + Int32.ofInt 1 := ⟨_, rfl⟩
          have h_v_74676 : 1 ≤ (v_74676 : Int32).toInt ∧ (v_74676 : Int32).toInt ≤ 3 := by rw [v_74676_e]; exact tr_add h_74665 (⟨by decide, by decide⟩ : 1 ≤ (Int32.ofInt 1 : Int32).toInt ∧ (Int32.ofInt 1 : Int32).toInt ≤ 1) (by decide) (by decide) (by decide) (by decide)
          have q_v_74676 : v_74676.toInt = x_74660.toInt + 1 := by rw [v_74676_e]; exact tr_addE h_74665 (⟨by decide, by decide⟩ : 1 ≤ (Int32.ofInt 1 : Int32).toInt ∧ (Int32.ofInt 1 : Int32).toInt ≤ 1) (by decide) (by decide)
          refine lv_iinc (v := v_74676) (lv' := [(3, .int v_74676), (2, .int v_74675), (0, .ref mm), (1, .int p0)]) hx hb dX12_onBits_47 hl (k := 1) rfl v_74676_e.symm (by decide) rfl (fun ls hl => ?_)
          refine lv_goto (tgt := 4) hx hb dX12_onBits_50 (by decide) ?_
          exact ih_74661 v_74675 v_74676 ls (tr_w h_v_74675 (by decide) (by decide)) (tr_w h_v_74676 (by decide) (by decide)) (on_add (t := r_74672) hr74661_0 h_x_74659 hw_74673 v_74674_e v_74675_e (by have z3 := tk_3; omega) hw_74673_p0 (by omega)) (by have z_0 := tk_0; have q9 := (hG.r.2.1 (p0 : Int32).toInt.toNat (by omega)).2.2.1; omega) (by omega) (lv_sub hl [0, 1, 2, 3] rfl)
        · skip
          have kk_0 := tk_0
          have c_74669_i := c_74669
          have c_74669_i : (r_74667 : Int32).toInt = (0 : Int32).toInt := congrArg Int32.toInt c_74669
          have hw_74668_p1_u := (hw_74668_p1).get (c_74669_i.trans tk_0)
          have c_74669_i := c_74669
          have c_74669_i : (r_74667 : Int32).toInt = (0 : Int32).toInt := congrArg Int32.toInt c_74669
          have h_74671 : 0 ≤ (r_74667 : Int32).toInt ∧ (r_74667 : Int32).toInt ≤ 0 := by have q1 := hw_74668; have q2 := (⟨by decide, by decide⟩ : 0 ≤ (0 : Int32).toInt ∧ (0 : Int32).toInt ≤ 0); omega
          refine lv_aload_n hx hb dX12_onBits_26 rfl (lv_at hl 2 rfl) ?_
          refine va_get (D := D) (ci := 12) (v := .ref m_choice) (C := RX12) (T := TX12) (N := 35) hx hb hts inlX12 hown hK hP 0 rfl rfl 20 (by decide) (hts (Cond.fieldLink RX12 40 "ChanceRingsModel" "choice" "[I") qw_690) (fun _ h9 => h9) rfl dX12_onBits_27 ?_
          refine lv_iload_n hx hb dX12_onBits_30 rfl (lv_at hl 3 rfl) ?_
          refine va_iald hx hb hK hP 2 0 rfl rfl (tr_in h_p0 (by decide) (by decide)) dX12_onBits_31 ?_
          refine lv_topi (fun v_74677 v_74677_e => ?_)
          have h_v_74677 : 0 ≤ (v_74677 : Int32).toInt ∧ (v_74677 : Int32).toInt ≤ 2 := by rw [v_74677_e]; exact h_chf _
          have g_v_74677 : v_74677 = chf (p0.toInt.toNat) := v_74677_e.trans (congrArg chf (by show Int.toNat _ = _; omega))
          have gi_v_74677 := congrArg Int32.toInt g_v_74677
          refine lv_iload_n hx hb dX12_onBits_32 rfl (lv_at hl 0 rfl) ?_
          refine lv_icmp_ne (tgt := 47) hx hb dX12_onBits_33 (by decide) (fun c_74678 => ?_) (fun c_74678 => ?_)
          · skip
            have c_74678_i := c_74678
            have c_74678_i : ¬ (v_74677 : Int32).toInt = (x_74660 : Int32).toInt := (fun q => c_74678 (Int32.toInt_inj.mp q))
            obtain ⟨v_74679, v_74679_e⟩ : ∃ y : Int32, y = x_74660 + Int32.ofInt 1 := ⟨_, rfl⟩
            have h_v_74679 : 1 ≤ (v_74679 : Int32).toInt ∧ (v_74679 : Int32).toInt ≤ 3 := by rw [v_74679_e]; exact tr_add h_74665 (⟨by decide, by decide⟩ : 1 ≤ (Int32.ofInt 1 : Int32).toInt ∧ (Int32.ofInt 1 : Int32).toInt ≤ 1) (by decide) (by decide) (by decide) (by decide)
            have q_v_74679 : v_74679.toInt = x_74660.toInt + 1 := by rw [v_74679_e]; exact tr_addE h_74665 (⟨by decide, by decide⟩ : 1 ≤ (Int32.ofInt 1 : Int32).toInt ∧ (Int32.ofInt 1 : Int32).toInt ≤ 1) (by decide) (by decide)
            refine lv_iinc (v := v_74679) (lv' := [(3, .int v_74679), (2, .int x_74659), (0, .ref mm), (1, .int p0)]) hx hb dX12_onBits_47 hl (k := 0) rfl v_74679_e.symm (by decide) rfl (fun ls hl => ?_)
            refine lv_goto (tgt := 4) hx hb dX12_onBits_50 (by decide) ?_
            exact ih_74661 x_74659 v_74679 ls (tr_w h_x_74659 (by decide) (by decide)) (tr_w h_v_74679 (by decide) (by decide)) (on_skip hr74661_0 (by have z3 := tk_3; omega) (by omega)) (by have z_0 := tk_0; have q9 := (hG.r.2.1 (p0 : Int32).toInt.toNat (by omega)).2.2.1; omega) (by omega) (lv_sub hl [0, 1, 2, 3] rfl)
          · skip
            have c_74678_i := c_74678
            have c_74678_i : (v_74677 : Int32).toInt = (x_74660 : Int32).toInt := congrArg Int32.toInt c_74678
            refine lv_iload_n hx hb dX12_onBits_36 rfl (lv_at hl 1 rfl) ?_
            refine lv_iconst (v := 1) hx hb dX12_onBits_37 (by decide) ?_
            refine lv_aload_n hx hb dX12_onBits_38 rfl (lv_at hl 2 rfl) ?_
            refine lv_iload_n hx hb dX12_onBits_39 rfl (lv_at hl 3 rfl) ?_
            refine lv_iload_n hx hb dX12_onBits_40 rfl (lv_at hl 0 rfl) ?_
            have hPc := hP.sub (ws' := [(mm, .inr (12, (.int i_thrown :: .ref m_s :: .ref m_spare :: .ref m_kept :: .ref m_undone :: .ref m_triedWay :: .ref m_isKept :: .int i_undoMany :: .ref m_tape :: .int i_length :: .int i_size :: .int i_p :: .int i_at :: .int i_token :: .int i_number :: .int i_letterMany :: .int i_fault :: .int i_faultAt :: .ref m_letters :: .int i_isKnown :: .ref m_choice :: .ref m_row :: .ref m_up :: .ref m_low :: .ref m_m :: .ref m_bestUp :: .ref m_bestLow :: .ref m_replyUp :: .ref m_replyLow :: .ref m_worthUp :: .ref m_worthLow :: .ref m_bestWay :: .int i_seed :: .ref m_told :: .int i_toldMany :: []))), (m_s, .inl (g 0, 193, .inl sf))]) [0, 1] rfl
            refine vp_callSi (va_Run.run (va_runV (As := [.int p0, .int x_74660]) (rest := [.int 1, .int x_74659]) ⟨hx, hb, hml, hown, hts⟩ (c_X12_to l D g mm p0 x_74660 i_thrown m_s m_spare m_kept m_undone m_triedWay m_isKept i_undoMany m_tape i_length i_size i_p i_at i_token i_number i_letterMany i_fault i_faultAt m_letters i_isKnown m_choice m_row m_up m_low m_m m_bestUp m_bestLow m_replyUp m_replyLow m_worthUp m_worthLow m_bestWay i_seed m_told i_toldMany sf (tr_w h_p0 (by decide) (by decide)) (tr_w h_74665 (by decide) (by decide)) (tr_w h_i_undoMany (by decide) (by decide)) (tr_w h_i_length (by decide) (by decide)) (tr_w h_i_size (by decide) (by decide)) (tr_w h_i_p (by decide) (by decide)) (tr_w h_i_at (by decide) (by decide)) (tr_w h_i_token (by decide) (by decide)) (tr_w h_i_number (by decide) (by decide)) (tr_w h_i_letterMany (by decide) (by decide)) (tr_w h_i_isKnown (by decide) (by decide)) (tr_w h_i_toldMany (by decide) (by decide)) hG) (cwV 2 hts (tz_gV qw_686 qw_687 qw_688 qw_568 qw_689) rfl rfl rfl (by decide +kernel) ⟨Nat.le_of_ble_eq_true rfl, Nat.le_of_ble_eq_true rfl⟩) ⟨tz_blS, va_recv hK hPc (ci := 12) (q0 := 0) rfl rfl, tz_preS hPc hK⟩ rfl rfl hl.1 rfl (lv_room (Nat.le_of_ble_eq_true rfl)) dX12_onBits_41 ⟨Nat.le_of_ble_eq_true rfl, Nat.le_of_ble_eq_true rfl⟩)) (fun r_74680 hw => ?_)
            have hw_74681 : 0 ≤ (r_74680 : Int32).toInt ∧ (r_74680 : Int32).toInt ≤ 11 := hw.1
            have hw_74681_p0 : (r_74680 : Int32) = sf (37 + 3 * (p0 : Int32).toInt.toNat + (x_74660 : Int32).toInt.toNat) := hw.2
            refine lv_ishl hx hb dX12_onBits_44 ?_
            refine lv_topi (fun v_74682 v_74682_e => ?_)
            have h_v_74682 : 0 ≤ (v_74682 : Int32).toInt ∧ (v_74682 : Int32).toInt ≤ 4095 := by rw [v_74682_e]; exact tr_shl12 (tr_w hw_74681 (by decide) (by decide))
            refine lv_ior hx hb dX12_onBits_45 ?_
            refine lv_topi (fun v_74683 v_74683_e => ?_)
            have h_v_74683 : 0 ≤ (v_74683 : Int32).toInt ∧ (v_74683 : Int32).toInt ≤ 4095 := by rw [v_74683_e]; exact (tr_or12 (tr_w h_x_74659 (by decide) (by decide)) (tr_w h_v_74682 (by decide) (by decide))).1
            have o_v_74683 : (x_74659 : Int32).toInt ≤ (v_74683 : Int32).toInt := by rw [v_74683_e]; exact (tr_or12 (tr_w h_x_74659 (by decide) (by decide)) (tr_w h_v_74682 (by decide) (by decide))).2
            refine lv_istore_n (lv' := [(2, .int v_74683), (3, .int x_74660), (0, .ref mm), (1, .int p0)]) hx hb dX12_onBits_46 rfl hl (by decide) rfl (fun ls hl => ?_)
            obtain ⟨v_74684, v_74684_e⟩ : ∃ y : Int32, y = x_74660 + Int32.ofInt 1 := ⟨_, rfl⟩
            have h_v_74684 : 1 ≤ (v_74684 : Int32).toInt ∧ (v_74684 : Int32).toInt ≤ 3 := by rw [v_74684_e]; exact tr_add h_74665 (⟨by decide, by decide⟩ : 1 ≤ (Int32.ofInt 1 : Int32).toInt ∧ (Int32.ofInt 1 : Int32).toInt ≤ 1) (by decide) (by decide) (by decide) (by decide)
            have q_v_74684 : v_74684.toInt = x_74660.toInt + 1 := by rw [v_74684_e]; exact tr_addE h_74665 (⟨by decide, by decide⟩ : 1 ≤ (Int32.ofInt 1 : Int32).toInt ∧ (Int32.ofInt 1 : Int32).toInt ≤ 1) (by decide) (by decide)
            refine lv_iinc (v := v_74684) (lv' := [(3, .int v_74684), (2, .int v_74683), (0, .ref mm), (1, .int p0)]) hx hb dX12_onBits_47 hl (k := 1) rfl v_74684_e.symm (by decide) rfl (fun ls hl => ?_)
            refine lv_goto (tgt := 4) hx hb dX12_onBits_50 (by decide) ?_
            exact ih_74661 v_74683 v_74684 ls (tr_w h_v_74683 (by decide) (by decide)) (tr_w h_v_74684 (by decide) (by decide)) (on_add (t := r_74680) hr74661_0 h_x_74659 hw_74681 v_74682_e v_74683_e (by have z3 := tk_3; omega) hw_74681_p0 (by omega)) (by have z_0 := tk_0; have q9 := (hG.r.2.1 (p0 : Int32).toInt.toNat (by omega)).2.2.1; omega) (by omega) (lv_sub hl [0, 1, 2, 3] rfl)
  exact lp_74661 4 0 0 ls (⟨by decide, by decide⟩ : 0 ≤ (0 : Int32).toInt ∧ (0 : Int32).toInt ≤ 4095) (⟨by decide, by decide⟩ : 0 ≤ (0 : Int32).toInt ∧ (0 : Int32).toInt ≤ 3) on_zero (by have z_0 := tk_0; have q9 := (hG.r.2.1 (p0 : Int32).toInt.toNat (by omega)).2.2.1; omega) (by decide) (lv_sub hl [0, 1, 2, 3] rfl)
set_option maxHeartbeats 4000000 in
set_option maxRecDepth 100000 in
theorem c_X12_ends (l : Launch) (D : va_G) (g : Nat → ClassId) (mm : Nat) (i_thrown : Int32) (m_s : Nat) (m_spare : Nat) (m_kept : Nat) (m_undone : Nat) (m_triedWay : Nat) (m_isKept : Nat) (i_undoMany : Int32) (m_tape : Nat) (i_length : Int32) (i_size : Int32) (i_p : Int32) (i_at : Int32) (i_token : Int32) (i_number : Int32) (i_letterMany : Int32) (i_fault : Int32) (i_faultAt : Int32) (m_letters : Nat) (i_isKnown : Int32) (m_choice : Nat) (m_row : Nat) (m_up : Nat) (m_low : Nat) (m_m : Nat) (m_bestUp : Nat) (m_bestLow : Nat) (m_replyUp : Nat) (m_replyLow : Nat) (m_worthUp : Nat) (m_worthLow : Nat) (m_bestWay : Nat) (i_seed : Int32) (m_told : Nat) (i_toldMany : Int32) (sf : Nat → Int32) (h_i_undoMany : 0 ≤ (i_undoMany : Int32).toInt ∧ (i_undoMany : Int32).toInt ≤ 8) (h_i_length : 0 ≤ (i_length : Int32).toInt ∧ (i_length : Int32).toInt ≤ 440) (h_i_size : 0 ≤ (i_size : Int32).toInt ∧ (i_size : Int32).toInt ≤ 440) (h_i_p : 0 ≤ (i_p : Int32).toInt ∧ (i_p : Int32).toInt ≤ 440) (h_i_at : 0 ≤ (i_at : Int32).toInt ∧ (i_at : Int32).toInt ≤ 440) (h_i_token : 0 ≤ (i_token : Int32).toInt ∧ (i_token : Int32).toInt ≤ 4) (h_i_number : 0 ≤ (i_number : Int32).toInt ∧ (i_number : Int32).toInt ≤ 814) (h_i_letterMany : (-440) ≤ (i_letterMany : Int32).toInt ∧ (i_letterMany : Int32).toInt ≤ 440) (h_i_isKnown : 0 ≤ (i_isKnown : Int32).toInt ∧ (i_isKnown : Int32).toInt ≤ 1) (h_i_toldMany : 0 ≤ (i_toldMany : Int32).toInt ∧ (i_toldMany : Int32).toInt ≤ 900) (hG : GS sf) : Met l yX12_ends (.code yX12_ends cX12_ends 3 (some .int) :: wsL_law) ({ frames := 1, cells := 0, slots := 0, locals := 22 }) (va_Pc [.ref mm] (fun U => va_P D vwCl [(mm, .inr (12, (.int i_thrown :: .ref m_s :: .ref m_spare :: .ref m_kept :: .ref m_undone :: .ref m_triedWay :: .ref m_isKept :: .int i_undoMany :: .ref m_tape :: .int i_length :: .int i_size :: .int i_p :: .int i_at :: .int i_token :: .int i_number :: .int i_letterMany :: .int i_fault :: .int i_faultAt :: .ref m_letters :: .int i_isKnown :: .ref m_choice :: .ref m_row :: .ref m_up :: .ref m_low :: .ref m_m :: .ref m_bestUp :: .ref m_bestLow :: .ref m_replyUp :: .ref m_replyLow :: .ref m_worthUp :: .ref m_worthLow :: .ref m_bestWay :: .int i_seed :: .ref m_told :: .int i_toldMany :: []))), (m_s, .inl (g 0, 193, .inl sf))] U.heap ∧ va_K D vwCl (TY g) U)) (vp_Si (fun r => (0 ≤ (r : Int32).toInt ∧ (r : Int32).toInt ≤ 4095) ∧ (∀ j : Nat, bt r j ↔ (j < (sf 0).toInt.toNat ∧ (sf (1 + j)).toInt = 0)))) 0 0 (fun _ => False) := by
  refine Met.ofW (cc := cX12_ends) (maxL := 3) (ret := (some .int)) (by decide) rfl ?_
  intro p e s m args below meth c s₁ B hml hv
  obtain ⟨ha, hP, hK⟩ := hv
  have hx := B.exec
  have hb := B.bytes
  have hr := B.returns
  have hts0 := atoms_spec (ws := (.code yX12_ends cX12_ends 3 (some .int) :: wsL_law)) B.pre
  have hts : ∀ w ∈ wsL_law, w.before args s = true := fun w h => hts0 w (List.mem_cons_of_mem _ h)
  have hown : s.vm.findClass RX12 = some m.cls := findClass_of_methodNamed B.named
  have hlocks := B.notSynchronized
  have hP : va_P D vwCl [(mm, .inr (12, (.int i_thrown :: .ref m_s :: .ref m_spare :: .ref m_kept :: .ref m_undone :: .ref m_triedWay :: .ref m_isKept :: .int i_undoMany :: .ref m_tape :: .int i_length :: .int i_size :: .int i_p :: .int i_at :: .int i_token :: .int i_number :: .int i_letterMany :: .int i_fault :: .int i_faultAt :: .ref m_letters :: .int i_isKnown :: .ref m_choice :: .ref m_row :: .ref m_up :: .ref m_low :: .ref m_m :: .ref m_bestUp :: .ref m_bestLow :: .ref m_replyUp :: .ref m_replyLow :: .ref m_worthUp :: .ref m_worthLow :: .ref m_bestWay :: .int i_seed :: .ref m_told :: .int i_toldMany :: []))), (m_s, .inl (g 0, 193, .inl sf))] s.heap := hP
  refine W.eq (g2 := entryFrame m ([.ref mm] : List Value).toArray 3) (by rw [ha]) ?_
  have hl := lv_entry ([.ref mm]) (n := 3) (Nat.le_of_ble_eq_true rfl)
  rw [lg_entry_eq]
  generalize (lg_sl ([.ref mm]) ++ List.replicate (3 - (lg_sl ([.ref mm])).length) Slot.unset).toArray = ls at hl ⊢
  have hl : lv_has ls 3 [(0, .ref mm)] := hl
  have gn9 := hG.r.1
  refine lv_iconst (v := 0) hx hb dX12_ends_0 (by decide) ?_
  refine lv_istore_n (lv' := [(1, .int 0), (0, .ref mm)]) hx hb dX12_ends_1 rfl hl (by decide) rfl (fun ls hl => ?_)
  refine lv_iconst (v := 0) hx hb dX12_ends_2 (by decide) ?_
  refine lv_istore_n (lv' := [(2, .int 0), (1, .int 0), (0, .ref mm)]) hx hb dX12_ends_3 rfl hl (by decide) rfl (fun ls hl => ?_)
  have lp_74703 : ∀ (n_74703 : Nat) (x_74701 : Int32) (x_74702 : Int32) (ls : Array Slot), (0 ≤ (x_74701 : Int32).toInt ∧ (x_74701 : Int32).toInt ≤ 4095) → (0 ≤ (x_74702 : Int32).toInt ∧ (x_74702 : Int32).toInt ≤ 12) → (∀ j : Nat, bt x_74701 j ↔ (j < x_74702.toInt.toNat ∧ (sf (1 + j)).toInt = 0)) → (x_74702.toInt ≤ (sf 0).toInt) → (12 - x_74702.toInt < (n_74703 : Int)) → lv_has ls 3 [(2, .int x_74702), (1, .int x_74701), (0, .ref mm)] → W p l e (headSpec (.code yX12_ends cX12_ends 3 (some .int) :: wsL_law) ({ frames := 1, cells := 0, slots := 0, locals := 22 })).room s m args below meth c s.heap [] 0 0 (MQ below (vp_Si (fun r => (0 ≤ (r : Int32).toInt ∧ (r : Int32).toInt ≤ 4095) ∧ (∀ j : Nat, bt r j ↔ (j < (sf 0).toInt.toNat ∧ (sf (1 + j)).toInt = 0)))) args s 0 0 (fun _ => False)) (F0 m 4 ls []) := by
    intro n_74703
    induction n_74703 with
    | zero =>
      intro x_74701 x_74702 ls h_x_74701 h_x_74702 hr74703_0 hr74703_1 hm_74703 hl
      exfalso; omega
    | succ n_74703 ih_74703 =>
      intro x_74701 x_74702 ls h_x_74701 h_x_74702 hr74703_0 hr74703_1 hm_74703 hl
      refine lv_iload_n hx hb dX12_ends_4 rfl (lv_at hl 0 rfl) ?_
      refine lv_aload_n hx hb dX12_ends_5 rfl (lv_at hl 2 rfl) ?_
      refine va_get (D := D) (ci := 12) (v := .ref m_s) (C := RX12) (T := TX12) (N := 35) hx hb hts inlX12 hown hK hP 0 rfl rfl 1 (by decide) (hts (Cond.fieldLink RX12 13 "ChanceRingsModel" "s" "[I") qw_638) (fun _ h9 => h9) rfl dX12_ends_6 ?_
      refine lv_iconst (v := 0) hx hb dX12_ends_9 (by decide) ?_
      refine va_iald hx hb hK hP 1 0 rfl rfl (tz_in (by decide +kernel)) dX12_ends_10 ?_
      refine lv_topi (fun v_74704 v_74704_e => ?_)
      have h_v_74704 : 0 ≤ (v_74704 : Int32).toInt ∧ (v_74704 : Int32).toInt ≤ 12 := by rw [v_74704_e]; exact gr_nodes hG.r (⟨by decide, by decide⟩ : 0 ≤ (0 : Int32).toInt ∧ (0 : Int32).toInt ≤ 0)
      have g_v_74704 : v_74704 = sf (0) := v_74704_e.trans (congrArg sf rfl)
      have gi_v_74704 := congrArg Int32.toInt g_v_74704
      refine lv_icmp_ge (tgt := 39) hx hb dX12_ends_11 (by decide) (fun c_74705 => ?_) (fun c_74705 => ?_)
      · skip
        have c_74705_i := Int32.le_iff_toInt_le.mp c_74705
        refine lv_iload_n hx hb dX12_ends_39 rfl (lv_at hl 1 rfl) ?_
        exact W.iret (v := x_74701) hx hb hr (fun t ht hW => ⟨x_74701, rfl, ⟨(tr_w h_x_74701 (by decide) (by decide)), (fun j => by rw [hr74703_0 j, show x_74702.toInt.toNat = (sf 0).toInt.toNat by omega])⟩, ht⟩) (fun _ h => nomatch h) dX12_ends_40
      · skip
        have c_74705_i := Int32.lt_iff_toInt_lt.mp (Int32.not_le.mp c_74705)
        have c_74705_i := Int32.lt_iff_toInt_lt.mp (Int32.not_le.mp c_74705)
        have h_74706 : 0 ≤ (x_74702 : Int32).toInt ∧ (x_74702 : Int32).toInt ≤ 11 := by have q1 := h_x_74702; have q2 := h_v_74704; omega
        have h_74707 : 1 ≤ (v_74704 : Int32).toInt ∧ (v_74704 : Int32).toInt ≤ 12 := by have q1 := h_x_74702; have q2 := h_v_74704; omega
        refine lv_iload_n hx hb dX12_ends_14 rfl (lv_at hl 1 rfl) ?_
        refine lv_aload_n hx hb dX12_ends_15 rfl (lv_at hl 2 rfl) ?_
        refine lv_iload_n hx hb dX12_ends_16 rfl (lv_at hl 0 rfl) ?_
        refine lv_iconst (v := 0) hx hb dX12_ends_17 (by decide) ?_
        have hPc := hP.sub (ws' := [(mm, .inr (12, (.int i_thrown :: .ref m_s :: .ref m_spare :: .ref m_kept :: .ref m_undone :: .ref m_triedWay :: .ref m_isKept :: .int i_undoMany :: .ref m_tape :: .int i_length :: .int i_size :: .int i_p :: .int i_at :: .int i_token :: .int i_number :: .int i_letterMany :: .int i_fault :: .int i_faultAt :: .ref m_letters :: .int i_isKnown :: .ref m_choice :: .ref m_row :: .ref m_up :: .ref m_low :: .ref m_m :: .ref m_bestUp :: .ref m_bestLow :: .ref m_replyUp :: .ref m_replyLow :: .ref m_worthUp :: .ref m_worthLow :: .ref m_bestWay :: .int i_seed :: .ref m_told :: .int i_toldMany :: []))), (m_s, .inl (g 0, 193, .inl sf))]) [0, 1] rfl
        refine vp_callSi (va_Run.run (va_runV (As := [.int x_74702, .int 0]) (rest := [.int x_74701]) ⟨hx, hb, hml, hown, hts⟩ (c_X12_isKind l D g mm x_74702 0 i_thrown m_s m_spare m_kept m_undone m_triedWay m_isKept i_undoMany m_tape i_length i_size i_p i_at i_token i_number i_letterMany i_fault i_faultAt m_letters i_isKnown m_choice m_row m_up m_low m_m m_bestUp m_bestLow m_replyUp m_replyLow m_worthUp m_worthLow m_bestWay i_seed m_told i_toldMany sf (tr_w h_74706 (by decide) (by decide)) (tr_w h_i_undoMany (by decide) (by decide)) (tr_w h_i_length (by decide) (by decide)) (tr_w h_i_size (by decide) (by decide)) (tr_w h_i_p (by decide) (by decide)) (tr_w h_i_at (by decide) (by decide)) (tr_w h_i_token (by decide) (by decide)) (tr_w h_i_number (by decide) (by decide)) (tr_w h_i_letterMany (by decide) (by decide)) (tr_w h_i_isKnown (by decide) (by decide)) (tr_w h_i_toldMany (by decide) (by decide)) hG) (cwV 2 hts (tz_gV qw_659 qw_660 qw_661 qw_568 qw_662) rfl rfl rfl (by decide +kernel) ⟨Nat.le_of_ble_eq_true rfl, Nat.le_of_ble_eq_true rfl⟩) ⟨tz_blS, va_recv hK hPc (ci := 12) (q0 := 0) rfl rfl, tz_preS hPc hK⟩ rfl rfl hl.1 rfl (lv_room (Nat.le_of_ble_eq_true rfl)) dX12_ends_18 ⟨Nat.le_of_ble_eq_true rfl, Nat.le_of_ble_eq_true rfl⟩)) (fun r_74708 hw => ?_)
        have kk_0 := tk_0
        have hw_74709 : 0 ≤ (r_74708 : Int32).toInt ∧ (r_74708 : Int32).toInt ≤ 1 := hw.1
        have hw_74709_p0 : Hide (¬ (r_74708 : Int32).toInt = 0 → (sf (1 + (x_74702 : Int32).toInt.toNat)).toInt = (0 : Int32).toInt) := hw.2.1
        have hw_74709_p1 : Hide ((r_74708 : Int32).toInt = 0 → ¬ (sf (1 + (x_74702 : Int32).toInt.toNat)).toInt = (0 : Int32).toInt) := hw.2.2
        refine lv_if_eq (tgt := 30) hx hb dX12_ends_21 (by decide) (fun c_74710 => ?_) (fun c_74710 => ?_)
        · skip
          have c_74710_i := c_74710
          have c_74710_i : (r_74708 : Int32).toInt = (0 : Int32).toInt := congrArg Int32.toInt c_74710
          have hw_74709_p1_u := (hw_74709_p1).get (c_74710_i.trans tk_0)
          have c_74710_i := c_74710
          have c_74710_i : (r_74708 : Int32).toInt = (0 : Int32).toInt := congrArg Int32.toInt c_74710
          have h_74711 : 0 ≤ (r_74708 : Int32).toInt ∧ (r_74708 : Int32).toInt ≤ 0 := by have q1 := hw_74709; have q2 := (⟨by decide, by decide⟩ : 0 ≤ (0 : Int32).toInt ∧ (0 : Int32).toInt ≤ 0); omega
          refine lv_iconst (v := 0) hx hb dX12_ends_30 (by decide) ?_
          refine lv_ior hx hb dX12_ends_31 ?_
          refine lv_topi (fun v_74713 v_74713_e => ?_)
          have h_v_74713 : 0 ≤ (v_74713 : Int32).toInt ∧ (v_74713 : Int32).toInt ≤ 4095 := by rw [v_74713_e]; exact (tr_or12 (tr_w h_x_74701 (by decide) (by decide)) (⟨by decide, by decide⟩ : 0 ≤ (0 : Int32).toInt ∧ (0 : Int32).toInt ≤ 4095)).1
          have o_v_74713 : (x_74701 : Int32).toInt ≤ (v_74713 : Int32).toInt := by rw [v_74713_e]; exact (tr_or12 (tr_w h_x_74701 (by decide) (by decide)) (⟨by decide, by decide⟩ : 0 ≤ (0 : Int32).toInt ∧ (0 : Int32).toInt ≤ 4095)).2
          refine lv_istore_n (lv' := [(1, .int v_74713), (2, .int x_74702), (0, .ref mm)]) hx hb dX12_ends_32 rfl hl (by decide) rfl (fun ls hl => ?_)
          obtain ⟨v_74714, v_74714_e⟩ : ∃ y : Int32, y = x_74702 + Int32.ofInt 1 := ⟨_, rfl⟩
          have h_v_74714 : 1 ≤ (v_74714 : Int32).toInt ∧ (v_74714 : Int32).toInt ≤ 12 := by rw [v_74714_e]; exact tr_add h_74706 (⟨by decide, by decide⟩ : 1 ≤ (Int32.ofInt 1 : Int32).toInt ∧ (Int32.ofInt 1 : Int32).toInt ≤ 1) (by decide) (by decide) (by decide) (by decide)
          have q_v_74714 : v_74714.toInt = x_74702.toInt + 1 := by rw [v_74714_e]; exact tr_addE h_74706 (⟨by decide, by decide⟩ : 1 ≤ (Int32.ofInt 1 : Int32).toInt ∧ (Int32.ofInt 1 : Int32).toInt ≤ 1) (by decide) (by decide)
          refine lv_iinc (v := v_74714) (lv' := [(2, .int v_74714), (1, .int v_74713), (0, .ref mm)]) hx hb dX12_ends_33 hl (k := 1) rfl v_74714_e.symm (by decide) rfl (fun ls hl => ?_)
          refine lv_goto (tgt := 4) hx hb dX12_ends_36 (by decide) ?_
          exact ih_74703 v_74713 v_74714 ls (tr_w h_v_74713 (by decide) (by decide)) (tr_w h_v_74714 (by decide) (by decide)) (en_skip hr74703_0 v_74713_e (by have z_0 := tk_0; omega) (by omega)) (by have z_0 := tk_0; omega) (by omega) (lv_sub hl [0, 1, 2] rfl)
        · skip
          have c_74710_i := c_74710
          have c_74710_i : ¬ (r_74708 : Int32).toInt = (0 : Int32).toInt := (fun q => c_74710 (Int32.toInt_inj.mp q))
          have hw_74709_p0_u := (hw_74709_p0).get (fun q => c_74710_i (q.trans tk_0.symm))
          have c_74710_i := c_74710
          have c_74710_i : ¬ (r_74708 : Int32).toInt = (0 : Int32).toInt := (fun q => c_74710 (Int32.toInt_inj.mp q))
          have h_74712 : 1 ≤ (r_74708 : Int32).toInt ∧ (r_74708 : Int32).toInt ≤ 1 := by have q1 := hw_74709; have q2 := (⟨by decide, by decide⟩ : 0 ≤ (0 : Int32).toInt ∧ (0 : Int32).toInt ≤ 0); omega
          refine lv_iconst (v := 1) hx hb dX12_ends_24 (by decide) ?_
          refine lv_iload_n hx hb dX12_ends_25 rfl (lv_at hl 0 rfl) ?_
          refine lv_ishl hx hb dX12_ends_26 ?_
          refine lv_topi (fun v_74715 v_74715_e => ?_)
          have h_v_74715 : 0 ≤ (v_74715 : Int32).toInt ∧ (v_74715 : Int32).toInt ≤ 4095 := by rw [v_74715_e]; exact tr_shl12 (tr_w h_74706 (by decide) (by decide))
          refine lv_goto (tgt := 31) hx hb dX12_ends_27 (by decide) ?_
          refine lv_ior hx hb dX12_ends_31 ?_
          refine lv_topi (fun v_74716 v_74716_e => ?_)
          have h_v_74716 : 0 ≤ (v_74716 : Int32).toInt ∧ (v_74716 : Int32).toInt ≤ 4095 := by rw [v_74716_e]; exact (tr_or12 (tr_w h_x_74701 (by decide) (by decide)) (tr_w h_v_74715 (by decide) (by decide))).1
          have o_v_74716 : (x_74701 : Int32).toInt ≤ (v_74716 : Int32).toInt := by rw [v_74716_e]; exact (tr_or12 (tr_w h_x_74701 (by decide) (by decide)) (tr_w h_v_74715 (by decide) (by decide))).2
          refine lv_istore_n (lv' := [(1, .int v_74716), (2, .int x_74702), (0, .ref mm)]) hx hb dX12_ends_32 rfl hl (by decide) rfl (fun ls hl => ?_)
          obtain ⟨v_74717, v_74717_e⟩ : ∃ y : Int32, y = x_74702 + Int32.ofInt 1 := ⟨_, rfl⟩
          have h_v_74717 : 1 ≤ (v_74717 : Int32).toInt ∧ (v_74717 : Int32).toInt ≤ 12 := by rw [v_74717_e]; exact tr_add h_74706 (⟨by decide, by decide⟩ : 1 ≤ (Int32.ofInt 1 : Int32).toInt ∧ (Int32.ofInt 1 : Int32).toInt ≤ 1) (by decide) (by decide) (by decide) (by decide)
          have q_v_74717 : v_74717.toInt = x_74702.toInt + 1 := by rw [v_74717_e]; exact tr_addE h_74706 (⟨by decide, by decide⟩ : 1 ≤ (Int32.ofInt 1 : Int32).toInt ∧ (Int32.ofInt 1 : Int32).toInt ≤ 1) (by decide) (by decide)
          refine lv_iinc (v := v_74717) (lv' := [(2, .int v_74717), (1, .int v_74716), (0, .ref mm)]) hx hb dX12_ends_33 hl (k := 1) rfl v_74717_e.symm (by decide) rfl (fun ls hl => ?_)
          refine lv_goto (tgt := 4) hx hb dX12_ends_36 (by decide) ?_
          exact ih_74703 v_74716 v_74717 ls (tr_w h_v_74716 (by decide) (by decide)) (tr_w h_v_74717 (by decide) (by decide)) (en_add (t := x_74702) hr74703_0 h_x_74701 h_74706 v_74715_e v_74716_e (by omega) (by have z_0 := tk_0; omega) (by omega)) (by have z_0 := tk_0; omega) (by omega) (lv_sub hl [0, 1, 2] rfl)
  exact lp_74703 13 0 0 ls (⟨by decide, by decide⟩ : 0 ≤ (0 : Int32).toInt ∧ (0 : Int32).toInt ≤ 4095) (⟨by decide, by decide⟩ : 0 ≤ (0 : Int32).toInt ∧ (0 : Int32).toInt ≤ 12) en_zero (by have z_0 := tk_0; omega) (by decide) (lv_sub hl [0, 1, 2] rfl)
set_option maxHeartbeats 4000000 in
set_option maxRecDepth 100000 in
theorem c_X12_comes (l : Launch) (D : va_G) (g : Nat → ClassId) (mm : Nat) (p0 : Int32) (i_thrown : Int32) (m_s : Nat) (m_spare : Nat) (m_kept : Nat) (m_undone : Nat) (m_triedWay : Nat) (m_isKept : Nat) (i_undoMany : Int32) (m_tape : Nat) (i_length : Int32) (i_size : Int32) (i_p : Int32) (i_at : Int32) (i_token : Int32) (i_number : Int32) (i_letterMany : Int32) (i_fault : Int32) (i_faultAt : Int32) (m_letters : Nat) (i_isKnown : Int32) (m_choice : Nat) (m_row : Nat) (m_up : Nat) (m_low : Nat) (m_m : Nat) (m_bestUp : Nat) (m_bestLow : Nat) (m_replyUp : Nat) (m_replyLow : Nat) (m_worthUp : Nat) (m_worthLow : Nat) (m_bestWay : Nat) (i_seed : Int32) (m_told : Nat) (i_toldMany : Int32) (sf : Nat → Int32) (chf : Nat → Int32) (h_p0 : 0 ≤ (p0 : Int32).toInt ∧ (p0 : Int32).toInt ≤ 4095) (h_i_undoMany : 0 ≤ (i_undoMany : Int32).toInt ∧ (i_undoMany : Int32).toInt ≤ 8) (h_i_length : 0 ≤ (i_length : Int32).toInt ∧ (i_length : Int32).toInt ≤ 440) (h_i_size : 0 ≤ (i_size : Int32).toInt ∧ (i_size : Int32).toInt ≤ 440) (h_i_p : 0 ≤ (i_p : Int32).toInt ∧ (i_p : Int32).toInt ≤ 440) (h_i_at : 0 ≤ (i_at : Int32).toInt ∧ (i_at : Int32).toInt ≤ 440) (h_i_token : 0 ≤ (i_token : Int32).toInt ∧ (i_token : Int32).toInt ≤ 4) (h_i_number : 0 ≤ (i_number : Int32).toInt ∧ (i_number : Int32).toInt ≤ 814) (h_i_letterMany : (-440) ≤ (i_letterMany : Int32).toInt ∧ (i_letterMany : Int32).toInt ≤ 440) (h_i_isKnown : 0 ≤ (i_isKnown : Int32).toInt ∧ (i_isKnown : Int32).toInt ≤ 1) (h_i_toldMany : 0 ≤ (i_toldMany : Int32).toInt ∧ (i_toldMany : Int32).toInt ≤ 900) (h_chf : ∀ j : Nat, 0 ≤ (chf j).toInt ∧ (chf j).toInt ≤ 2) (hG : GS sf) : Met l yX12_comes (.code yX12_comes cX12_comes 5 (some .int) :: wsL_law) ({ frames := 2, cells := 0, slots := 0, locals := 45 }) (va_Pc [.ref mm, .int p0] (fun U => va_P D vwCl [(mm, .inr (12, (.int i_thrown :: .ref m_s :: .ref m_spare :: .ref m_kept :: .ref m_undone :: .ref m_triedWay :: .ref m_isKept :: .int i_undoMany :: .ref m_tape :: .int i_length :: .int i_size :: .int i_p :: .int i_at :: .int i_token :: .int i_number :: .int i_letterMany :: .int i_fault :: .int i_faultAt :: .ref m_letters :: .int i_isKnown :: .ref m_choice :: .ref m_row :: .ref m_up :: .ref m_low :: .ref m_m :: .ref m_bestUp :: .ref m_bestLow :: .ref m_replyUp :: .ref m_replyLow :: .ref m_worthUp :: .ref m_worthLow :: .ref m_bestWay :: .int i_seed :: .ref m_told :: .int i_toldMany :: []))), (m_s, .inl (g 0, 193, .inl sf)), (m_choice, .inl (g 0, 12, .inl chf))] U.heap ∧ va_K D vwCl (TY g) U)) (vp_Si (fun r => (0 ≤ (r : Int32).toInt ∧ (r : Int32).toInt ≤ 4095) ∧ (LF sf chf p0 r ∧ CL sf chf (bt r)))) 0 0 (fun _ => False) := by
  refine Met.ofW (cc := cX12_comes) (maxL := 5) (ret := (some .int)) (by decide) rfl ?_
  intro p e s m args below meth c s₁ B hml hv
  obtain ⟨ha, hP, hK⟩ := hv
  have hx := B.exec
  have hb := B.bytes
  have hr := B.returns
  have hts0 := atoms_spec (ws := (.code yX12_comes cX12_comes 5 (some .int) :: wsL_law)) B.pre
  have hts : ∀ w ∈ wsL_law, w.before args s = true := fun w h => hts0 w (List.mem_cons_of_mem _ h)
  have hown : s.vm.findClass RX12 = some m.cls := findClass_of_methodNamed B.named
  have hlocks := B.notSynchronized
  have hP : va_P D vwCl [(mm, .inr (12, (.int i_thrown :: .ref m_s :: .ref m_spare :: .ref m_kept :: .ref m_undone :: .ref m_triedWay :: .ref m_isKept :: .int i_undoMany :: .ref m_tape :: .int i_length :: .int i_size :: .int i_p :: .int i_at :: .int i_token :: .int i_number :: .int i_letterMany :: .int i_fault :: .int i_faultAt :: .ref m_letters :: .int i_isKnown :: .ref m_choice :: .ref m_row :: .ref m_up :: .ref m_low :: .ref m_m :: .ref m_bestUp :: .ref m_bestLow :: .ref m_replyUp :: .ref m_replyLow :: .ref m_worthUp :: .ref m_worthLow :: .ref m_bestWay :: .int i_seed :: .ref m_told :: .int i_toldMany :: []))), (m_s, .inl (g 0, 193, .inl sf)), (m_choice, .inl (g 0, 12, .inl chf))] s.heap := hP
  refine W.eq (g2 := entryFrame m ([.ref mm, .int p0] : List Value).toArray 5) (by rw [ha]) ?_
  have hl := lv_entry ([.ref mm, .int p0]) (n := 5) (Nat.le_of_ble_eq_true rfl)
  rw [lg_entry_eq]
  generalize (lg_sl ([.ref mm, .int p0]) ++ List.replicate (5 - (lg_sl ([.ref mm, .int p0])).length) Slot.unset).toArray = ls at hl ⊢
  have hl : lv_has ls 5 [(0, .ref mm), (1, .int p0)] := hl
  have gn9 := hG.r.1
  refine lv_iload_n hx hb dX12_comes_0 rfl (lv_at hl 1 rfl) ?_
  refine lv_istore_n (lv' := [(2, .int p0), (0, .ref mm), (1, .int p0)]) hx hb dX12_comes_1 rfl hl (by decide) rfl (fun ls hl => ?_)
  refine lv_iconst (v := 0) hx hb dX12_comes_2 (by decide) ?_
  refine lv_istore_n (lv' := [(3, .int 0), (2, .int p0), (0, .ref mm), (1, .int p0)]) hx hb dX12_comes_3 rfl hl (by decide) rfl (fun ls hl => ?_)
  have lp_74765 : ∀ (n_74765 : Nat) (x_74763 : Int32) (x_74764 : Int32) (ls : Array Slot), (0 ≤ (x_74763 : Int32).toInt ∧ (x_74763 : Int32).toInt ≤ 4095) → (0 ≤ (x_74764 : Int32).toInt ∧ (x_74764 : Int32).toInt ≤ 4095) → (LF sf chf p0 x_74763) → ((x_74764 : Int32) = x_74763 → CL sf chf (bt x_74763)) → (x_74764.toInt ≤ x_74763.toInt) → (4095 - x_74764.toInt < (n_74765 : Int)) → lv_has ls 5 [(3, .int x_74764), (2, .int x_74763), (0, .ref mm), (1, .int p0)] → W p l e (headSpec (.code yX12_comes cX12_comes 5 (some .int) :: wsL_law) ({ frames := 2, cells := 0, slots := 0, locals := 45 })).room s m args below meth c s.heap [] 0 0 (MQ below (vp_Si (fun r => (0 ≤ (r : Int32).toInt ∧ (r : Int32).toInt ≤ 4095) ∧ (LF sf chf p0 r ∧ CL sf chf (bt r)))) args s 0 0 (fun _ => False)) (F0 m 4 ls []) := by
    intro n_74765
    induction n_74765 with
    | zero =>
      intro x_74763 x_74764 ls h_x_74763 h_x_74764 hr74765_0 hr74765_1 hr74765_2 hm_74765 hl
      exfalso; omega
    | succ n_74765 ih_74765 =>
      intro x_74763 x_74764 ls h_x_74763 h_x_74764 hr74765_0 hr74765_1 hr74765_2 hm_74765 hl
      refine lv_iload_n hx hb dX12_comes_4 rfl (lv_at hl 0 rfl) ?_
      refine lv_iload_n hx hb dX12_comes_5 rfl (lv_at hl 1 rfl) ?_
      refine lv_icmp_eq (tgt := 62) hx hb dX12_comes_6 (by decide) (fun c_74766 => ?_) (fun c_74766 => ?_)
      · skip
        have c_74766_i := c_74766
        have c_74766_i : (x_74764 : Int32).toInt = (x_74763 : Int32).toInt := congrArg Int32.toInt c_74766
        refine lv_iload_n hx hb dX12_comes_62 rfl (lv_at hl 1 rfl) ?_
        exact W.iret (v := x_74763) hx hb hr (fun t ht hW => ⟨x_74763, rfl, ⟨(tr_w h_x_74763 (by decide) (by decide)), ⟨hr74765_0, hr74765_1 c_74766⟩⟩, ht⟩) (fun _ h => nomatch h) dX12_comes_63
      · skip
        have c_74766_i := c_74766
        have c_74766_i : ¬ (x_74764 : Int32).toInt = (x_74763 : Int32).toInt := (fun q => c_74766 (Int32.toInt_inj.mp q))
        refine lv_iload_n hx hb dX12_comes_9 rfl (lv_at hl 1 rfl) ?_
        refine lv_istore_n (lv' := [(3, .int x_74763), (2, .int x_74763), (0, .ref mm), (1, .int p0)]) hx hb dX12_comes_10 rfl hl (by decide) rfl (fun ls hl => ?_)
        refine lv_iconst (v := 0) hx hb dX12_comes_11 (by decide) ?_
        refine lv_istore (lv' := [(4, .int 0), (3, .int x_74763), (2, .int x_74763), (0, .ref mm), (1, .int p0)]) hx hb dX12_comes_12 hl (by decide) rfl (fun ls hl => ?_)
        have lp_74790 : ∀ (n_74790 : Nat) (x_74788 : Int32) (x_74789 : Int32) (ls : Array Slot), (0 ≤ (x_74788 : Int32).toInt ∧ (x_74788 : Int32).toInt ≤ 4095) → (0 ≤ (x_74789 : Int32).toInt ∧ (x_74789 : Int32).toInt ≤ 12) → (LF sf chf p0 x_74788) → (x_74788 = x_74763 → CLm sf chf x_74789.toInt.toNat (bt x_74763)) → (x_74763.toInt ≤ x_74788.toInt) → (x_74789.toInt ≤ (sf 0).toInt) → (12 - x_74789.toInt < (n_74790 : Int)) → lv_has ls 5 [(4, .int x_74789), (3, .int x_74763), (2, .int x_74788), (0, .ref mm), (1, .int p0)] → W p l e (headSpec (.code yX12_comes cX12_comes 5 (some .int) :: wsL_law) ({ frames := 2, cells := 0, slots := 0, locals := 45 })).room s m args below meth c s.heap [] 0 0 (MQ below (vp_Si (fun r => (0 ≤ (r : Int32).toInt ∧ (r : Int32).toInt ≤ 4095) ∧ (LF sf chf p0 r ∧ CL sf chf (bt r)))) args s 0 0 (fun _ => False)) (F0 m 14 ls []) := by
          intro n_74790
          induction n_74790 with
          | zero =>
            intro x_74788 x_74789 ls h_x_74788 h_x_74789 hr74790_0 hr74790_1 hr74790_2 hr74790_3 hm_74790 hl
            exfalso; omega
          | succ n_74790 ih_74790 =>
            intro x_74788 x_74789 ls h_x_74788 h_x_74789 hr74790_0 hr74790_1 hr74790_2 hr74790_3 hm_74790 hl
            refine lv_iload hx hb dX12_comes_14 (lv_at hl 0 rfl) ?_
            refine lv_aload_n hx hb dX12_comes_16 rfl (lv_at hl 3 rfl) ?_
            refine va_get (D := D) (ci := 12) (v := .ref m_s) (C := RX12) (T := TX12) (N := 35) hx hb hts inlX12 hown hK hP 0 rfl rfl 1 (by decide) (hts (Cond.fieldLink RX12 13 "ChanceRingsModel" "s" "[I") qw_638) (fun _ h9 => h9) rfl dX12_comes_17 ?_
            refine lv_iconst (v := 0) hx hb dX12_comes_20 (by decide) ?_
            refine va_iald hx hb hK hP 1 0 rfl rfl (tz_in (by decide +kernel)) dX12_comes_21 ?_
            refine lv_topi (fun v_74791 v_74791_e => ?_)
            have h_v_74791 : 0 ≤ (v_74791 : Int32).toInt ∧ (v_74791 : Int32).toInt ≤ 12 := by rw [v_74791_e]; exact gr_nodes hG.r (⟨by decide, by decide⟩ : 0 ≤ (0 : Int32).toInt ∧ (0 : Int32).toInt ≤ 0)
            have g_v_74791 : v_74791 = sf (0) := v_74791_e.trans (congrArg sf rfl)
            have gi_v_74791 := congrArg Int32.toInt g_v_74791
            refine lv_icmp_ge (tgt := 59) hx hb dX12_comes_22 (by decide) (fun c_74792 => ?_) (fun c_74792 => ?_)
            · skip
              have c_74792_i := Int32.le_iff_toInt_le.mp c_74792
              refine lv_goto (tgt := 4) hx hb dX12_comes_59 (by decide) ?_
              exact ih_74765 x_74788 x_74763 ls (tr_w h_x_74788 (by decide) (by decide)) (tr_w h_x_74763 (by decide) (by decide)) hr74790_0 (CLm_done (m := x_74789.toInt.toNat) hr74790_1 (by omega)) (by have z_0 := tk_0; omega) (by omega) (lv_sub hl [1, 2, 3, 4] rfl)
            · skip
              have c_74792_i := Int32.lt_iff_toInt_lt.mp (Int32.not_le.mp c_74792)
              have c_74792_i := Int32.lt_iff_toInt_lt.mp (Int32.not_le.mp c_74792)
              have h_74793 : 0 ≤ (x_74789 : Int32).toInt ∧ (x_74789 : Int32).toInt ≤ 11 := by have q1 := h_x_74789; have q2 := h_v_74791; omega
              have h_74794 : 1 ≤ (v_74791 : Int32).toInt ∧ (v_74791 : Int32).toInt ≤ 12 := by have q1 := h_x_74789; have q2 := h_v_74791; omega
              refine lv_aload_n hx hb dX12_comes_25 rfl (lv_at hl 3 rfl) ?_
              refine lv_iload hx hb dX12_comes_26 (lv_at hl 0 rfl) ?_
              refine lv_iconst (v := 0) hx hb dX12_comes_28 (by decide) ?_
              have hPc := hP.sub (ws' := [(mm, .inr (12, (.int i_thrown :: .ref m_s :: .ref m_spare :: .ref m_kept :: .ref m_undone :: .ref m_triedWay :: .ref m_isKept :: .int i_undoMany :: .ref m_tape :: .int i_length :: .int i_size :: .int i_p :: .int i_at :: .int i_token :: .int i_number :: .int i_letterMany :: .int i_fault :: .int i_faultAt :: .ref m_letters :: .int i_isKnown :: .ref m_choice :: .ref m_row :: .ref m_up :: .ref m_low :: .ref m_m :: .ref m_bestUp :: .ref m_bestLow :: .ref m_replyUp :: .ref m_replyLow :: .ref m_worthUp :: .ref m_worthLow :: .ref m_bestWay :: .int i_seed :: .ref m_told :: .int i_toldMany :: []))), (m_s, .inl (g 0, 193, .inl sf))]) [0, 1] rfl
              refine vp_callSi (va_Run.run (va_runV (As := [.int x_74789, .int 0]) (rest := []) ⟨hx, hb, hml, hown, hts⟩ (c_X12_isKind l D g mm x_74789 0 i_thrown m_s m_spare m_kept m_undone m_triedWay m_isKept i_undoMany m_tape i_length i_size i_p i_at i_token i_number i_letterMany i_fault i_faultAt m_letters i_isKnown m_choice m_row m_up m_low m_m m_bestUp m_bestLow m_replyUp m_replyLow m_worthUp m_worthLow m_bestWay i_seed m_told i_toldMany sf (tr_w h_74793 (by decide) (by decide)) (tr_w h_i_undoMany (by decide) (by decide)) (tr_w h_i_length (by decide) (by decide)) (tr_w h_i_size (by decide) (by decide)) (tr_w h_i_p (by decide) (by decide)) (tr_w h_i_at (by decide) (by decide)) (tr_w h_i_token (by decide) (by decide)) (tr_w h_i_number (by decide) (by decide)) (tr_w h_i_letterMany (by decide) (by decide)) (tr_w h_i_isKnown (by decide) (by decide)) (tr_w h_i_toldMany (by decide) (by decide)) hG) (cwV 2 hts (tz_gV qw_659 qw_660 qw_661 qw_568 qw_662) rfl rfl rfl (by decide +kernel) ⟨Nat.le_of_ble_eq_true rfl, Nat.le_of_ble_eq_true rfl⟩) ⟨tz_blS, va_recv hK hPc (ci := 12) (q0 := 0) rfl rfl, tz_preS hPc hK⟩ rfl rfl hl.1 rfl (lv_room (Nat.le_of_ble_eq_true rfl)) dX12_comes_29 ⟨Nat.le_of_ble_eq_true rfl, Nat.le_of_ble_eq_true rfl⟩)) (fun r_74795 hw => ?_)
              have kk_0 := tk_0
              have hw_74796 : 0 ≤ (r_74795 : Int32).toInt ∧ (r_74795 : Int32).toInt ≤ 1 := hw.1
              have hw_74796_p0 : Hide (¬ (r_74795 : Int32).toInt = 0 → (sf (1 + (x_74789 : Int32).toInt.toNat)).toInt = (0 : Int32).toInt) := hw.2.1
              have hw_74796_p1 : Hide ((r_74795 : Int32).toInt = 0 → ¬ (sf (1 + (x_74789 : Int32).toInt.toNat)).toInt = (0 : Int32).toInt) := hw.2.2
              refine lv_if_ne (tgt := 53) hx hb dX12_comes_32 (by decide) (fun c_74797 => ?_) (fun c_74797 => ?_)
              · skip
                have c_74797_i := c_74797
                have c_74797_i : ¬ (r_74795 : Int32).toInt = (0 : Int32).toInt := (fun q => c_74797 (Int32.toInt_inj.mp q))
                have hw_74796_p0_u := (hw_74796_p0).get (fun q => c_74797_i (q.trans tk_0.symm))
                have c_74797_i := c_74797
                have c_74797_i : ¬ (r_74795 : Int32).toInt = (0 : Int32).toInt := (fun q => c_74797 (Int32.toInt_inj.mp q))
                have h_74798 : 1 ≤ (r_74795 : Int32).toInt ∧ (r_74795 : Int32).toInt ≤ 1 := by have q1 := hw_74796; have q2 := (⟨by decide, by decide⟩ : 0 ≤ (0 : Int32).toInt ∧ (0 : Int32).toInt ≤ 0); omega
                obtain ⟨v_74800, v_74800_e⟩ : ∃ y : Int32, y = x_74789 + Int32.ofInt 1 := ⟨_, rfl⟩
                have h_v_74800 : 1 ≤ (v_74800 : Int32).toInt ∧ (v_74800 : Int32).toInt ≤ 12 := by rw [v_74800_e]; exact tr_add h_74793 (⟨by decide, by decide⟩ : 1 ≤ (Int32.ofInt 1 : Int32).toInt ∧ (Int32.ofInt 1 : Int32).toInt ≤ 1) (by decide) (by decide) (by decide) (by decide)
                have q_v_74800 : v_74800.toInt = x_74789.toInt + 1 := by rw [v_74800_e]; exact tr_addE h_74793 (⟨by decide, by decide⟩ : 1 ≤ (Int32.ofInt 1 : Int32).toInt ∧ (Int32.ofInt 1 : Int32).toInt ≤ 1) (by decide) (by decide)
                refine lv_iinc (v := v_74800) (lv' := [(4, .int v_74800), (3, .int x_74763), (2, .int x_74788), (0, .ref mm), (1, .int p0)]) hx hb dX12_comes_53 hl (k := 0) rfl v_74800_e.symm (by decide) rfl (fun ls hl => ?_)
                refine lv_goto (tgt := 14) hx hb dX12_comes_56 (by decide) ?_
                exact ih_74790 x_74788 v_74800 ls (tr_w h_x_74788 (by decide) (by decide)) (tr_w h_v_74800 (by decide) (by decide)) hr74790_0 (CLm_end hr74790_1 (by have z_0 := tk_0; omega) (by omega)) (by have z_0 := tk_0; omega) (by have z_0 := tk_0; omega) (by omega) (lv_sub hl [0, 1, 2, 3, 4] rfl)
              · skip
                have c_74797_i := c_74797
                have c_74797_i : (r_74795 : Int32).toInt = (0 : Int32).toInt := congrArg Int32.toInt c_74797
                have hw_74796_p1_u := (hw_74796_p1).get (c_74797_i.trans tk_0)
                have c_74797_i := c_74797
                have c_74797_i : (r_74795 : Int32).toInt = (0 : Int32).toInt := congrArg Int32.toInt c_74797
                have h_74799 : 0 ≤ (r_74795 : Int32).toInt ∧ (r_74795 : Int32).toInt ≤ 0 := by have q1 := hw_74796; have q2 := (⟨by decide, by decide⟩ : 0 ≤ (0 : Int32).toInt ∧ (0 : Int32).toInt ≤ 0); omega
                refine lv_aload_n hx hb dX12_comes_35 rfl (lv_at hl 3 rfl) ?_
                refine lv_iload hx hb dX12_comes_36 (lv_at hl 0 rfl) ?_
                have hPc := hP.sub (ws' := [(mm, .inr (12, (.int i_thrown :: .ref m_s :: .ref m_spare :: .ref m_kept :: .ref m_undone :: .ref m_triedWay :: .ref m_isKept :: .int i_undoMany :: .ref m_tape :: .int i_length :: .int i_size :: .int i_p :: .int i_at :: .int i_token :: .int i_number :: .int i_letterMany :: .int i_fault :: .int i_faultAt :: .ref m_letters :: .int i_isKnown :: .ref m_choice :: .ref m_row :: .ref m_up :: .ref m_low :: .ref m_m :: .ref m_bestUp :: .ref m_bestLow :: .ref m_replyUp :: .ref m_replyLow :: .ref m_worthUp :: .ref m_worthLow :: .ref m_bestWay :: .int i_seed :: .ref m_told :: .int i_toldMany :: []))), (m_s, .inl (g 0, 193, .inl sf)), (m_choice, .inl (g 0, 12, .inl chf))]) [0, 1, 2] rfl
                refine vp_callSi (va_Run.run (va_runV (As := [.int x_74789]) (rest := []) ⟨hx, hb, hml, hown, hts⟩ (c_X12_onBits l D g mm x_74789 i_thrown m_s m_spare m_kept m_undone m_triedWay m_isKept i_undoMany m_tape i_length i_size i_p i_at i_token i_number i_letterMany i_fault i_faultAt m_letters i_isKnown m_choice m_row m_up m_low m_m m_bestUp m_bestLow m_replyUp m_replyLow m_worthUp m_worthLow m_bestWay i_seed m_told i_toldMany sf chf (tr_w h_74793 (by decide) (by decide)) (tr_w h_i_undoMany (by decide) (by decide)) (tr_w h_i_length (by decide) (by decide)) (tr_w h_i_size (by decide) (by decide)) (tr_w h_i_p (by decide) (by decide)) (tr_w h_i_at (by decide) (by decide)) (tr_w h_i_token (by decide) (by decide)) (tr_w h_i_number (by decide) (by decide)) (tr_w h_i_letterMany (by decide) (by decide)) (tr_w h_i_isKnown (by decide) (by decide)) (tr_w h_i_toldMany (by decide) (by decide)) (tr_wa h_chf (by decide) (by decide)) hG) (cwV 1 hts (tz_gV qw_691 qw_692 qw_693 qw_568 qw_694) rfl rfl rfl (by decide +kernel) ⟨Nat.le_of_ble_eq_true rfl, Nat.le_of_ble_eq_true rfl⟩) ⟨tz_blS, va_recv hK hPc (ci := 12) (q0 := 0) rfl rfl, tz_preS hPc hK⟩ rfl rfl hl.1 rfl (lv_room (Nat.le_of_ble_eq_true rfl)) dX12_comes_38 ⟨Nat.le_of_ble_eq_true rfl, Nat.le_of_ble_eq_true rfl⟩)) (fun r_74801 hw => ?_)
                have hw_74802 : 0 ≤ (r_74801 : Int32).toInt ∧ (r_74801 : Int32).toInt ≤ 4095 := hw.1
                have hw_74802_p0 : ∀ j : Nat, bt r_74801 j ↔ ON sf chf (x_74789 : Int32).toInt.toNat j := hw.2
                refine lv_iload_n hx hb dX12_comes_41 rfl (lv_at hl 2 rfl) ?_
                refine lv_iand hx hb dX12_comes_42 ?_
                refine lv_topi (fun v_74803 v_74803_e => ?_)
                refine lv_if_eq (tgt := 53) hx hb dX12_comes_43 (by decide) (fun c_74804 => ?_) (fun c_74804 => ?_)
                · skip
                  have c_74804_i := c_74804
                  have c_74804_i : (v_74803 : Int32).toInt = (0 : Int32).toInt := congrArg Int32.toInt c_74804
                  have h_74805 : 0 ≤ (v_74803 : Int32).toInt ∧ (v_74803 : Int32).toInt ≤ 0 := by rw [c_74804]; exact ⟨by decide, by decide⟩
                  obtain ⟨v_74806, v_74806_e⟩ : ∃ y : Int32, y = x_74789 + Int32.ofInt 1 := ⟨_, rfl⟩
                  have h_v_74806 : 1 ≤ (v_74806 : Int32).toInt ∧ (v_74806 : Int32).toInt ≤ 12 := by rw [v_74806_e]; exact tr_add h_74793 (⟨by decide, by decide⟩ : 1 ≤ (Int32.ofInt 1 : Int32).toInt ∧ (Int32.ofInt 1 : Int32).toInt ≤ 1) (by decide) (by decide) (by decide) (by decide)
                  have q_v_74806 : v_74806.toInt = x_74789.toInt + 1 := by rw [v_74806_e]; exact tr_addE h_74793 (⟨by decide, by decide⟩ : 1 ≤ (Int32.ofInt 1 : Int32).toInt ∧ (Int32.ofInt 1 : Int32).toInt ≤ 1) (by decide) (by decide)
                  refine lv_iinc (v := v_74806) (lv' := [(4, .int v_74806), (3, .int x_74763), (2, .int x_74788), (0, .ref mm), (1, .int p0)]) hx hb dX12_comes_53 hl (k := 0) rfl v_74806_e.symm (by decide) rfl (fun ls hl => ?_)
                  refine lv_goto (tgt := 14) hx hb dX12_comes_56 (by decide) ?_
                  exact ih_74790 x_74788 v_74806 ls (tr_w h_x_74788 (by decide) (by decide)) (tr_w h_v_74806 (by decide) (by decide)) hr74790_0 (CLm_not hr74790_1 h_x_74788 hw_74802_p0 hw_74802 (by rw [← v_74803_e]; exact c_74804) (by omega)) (by have z_0 := tk_0; omega) (by have z_0 := tk_0; omega) (by omega) (lv_sub hl [0, 1, 2, 3, 4] rfl)
                · skip
                  have c_74804_i := c_74804
                  have c_74804_i : ¬ (v_74803 : Int32).toInt = (0 : Int32).toInt := (fun q => c_74804 (Int32.toInt_inj.mp q))
                  refine lv_iload_n hx hb dX12_comes_46 rfl (lv_at hl 2 rfl) ?_
                  refine lv_iconst (v := 1) hx hb dX12_comes_47 (by decide) ?_
                  refine lv_iload hx hb dX12_comes_48 (lv_at hl 0 rfl) ?_
                  refine lv_ishl hx hb dX12_comes_50 ?_
                  refine lv_topi (fun v_74807 v_74807_e => ?_)
                  have h_v_74807 : 0 ≤ (v_74807 : Int32).toInt ∧ (v_74807 : Int32).toInt ≤ 4095 := by rw [v_74807_e]; exact tr_shl12 (tr_w h_74793 (by decide) (by decide))
                  refine lv_ior hx hb dX12_comes_51 ?_
                  refine lv_topi (fun v_74808 v_74808_e => ?_)
                  have h_v_74808 : 0 ≤ (v_74808 : Int32).toInt ∧ (v_74808 : Int32).toInt ≤ 4095 := by rw [v_74808_e]; exact (tr_or12 (tr_w h_x_74788 (by decide) (by decide)) (tr_w h_v_74807 (by decide) (by decide))).1
                  have o_v_74808 : (x_74788 : Int32).toInt ≤ (v_74808 : Int32).toInt := by rw [v_74808_e]; exact (tr_or12 (tr_w h_x_74788 (by decide) (by decide)) (tr_w h_v_74807 (by decide) (by decide))).2
                  refine lv_istore_n (lv' := [(2, .int v_74808), (4, .int x_74789), (3, .int x_74763), (0, .ref mm), (1, .int p0)]) hx hb dX12_comes_52 rfl hl (by decide) rfl (fun ls hl => ?_)
                  obtain ⟨v_74809, v_74809_e⟩ : ∃ y : Int32, y = x_74789 + Int32.ofInt 1 := ⟨_, rfl⟩
                  have h_v_74809 : 1 ≤ (v_74809 : Int32).toInt ∧ (v_74809 : Int32).toInt ≤ 12 := by rw [v_74809_e]; exact tr_add h_74793 (⟨by decide, by decide⟩ : 1 ≤ (Int32.ofInt 1 : Int32).toInt ∧ (Int32.ofInt 1 : Int32).toInt ≤ 1) (by decide) (by decide) (by decide) (by decide)
                  have q_v_74809 : v_74809.toInt = x_74789.toInt + 1 := by rw [v_74809_e]; exact tr_addE h_74793 (⟨by decide, by decide⟩ : 1 ≤ (Int32.ofInt 1 : Int32).toInt ∧ (Int32.ofInt 1 : Int32).toInt ≤ 1) (by decide) (by decide)
                  refine lv_iinc (v := v_74809) (lv' := [(4, .int v_74809), (2, .int v_74808), (3, .int x_74763), (0, .ref mm), (1, .int p0)]) hx hb dX12_comes_53 hl (k := 1) rfl v_74809_e.symm (by decide) rfl (fun ls hl => ?_)
                  refine lv_goto (tgt := 14) hx hb dX12_comes_56 (by decide) ?_
                  exact ih_74790 v_74808 v_74809 ls (tr_w h_v_74808 (by decide) (by decide)) (tr_w h_v_74809 (by decide) (by decide)) (LF_add (t := x_74789) hr74790_0 h_x_74788 h_74793 v_74807_e v_74808_e (by omega) (by omega) (by have z_0 := tk_0; omega) hw_74802_p0 hw_74802 (by rw [← v_74803_e]; exact c_74804)) (CLm_add (t := x_74789) hr74790_1 (by omega) h_x_74788 h_74793 v_74807_e v_74808_e (by omega) (by omega)) (by have z_0 := tk_0; omega) (by have z_0 := tk_0; omega) (by omega) (lv_sub hl [0, 2, 1, 3, 4] rfl)
        exact lp_74790 13 x_74763 0 ls (tr_w h_x_74763 (by decide) (by decide)) (⟨by decide, by decide⟩ : 0 ≤ (0 : Int32).toInt ∧ (0 : Int32).toInt ≤ 12) hr74765_0 (fun _ => CLm_zero) (by have z_0 := tk_0; omega) (by have z_0 := tk_0; omega) (by decide) (lv_sub hl [0, 1, 2, 3, 4] rfl)
  exact lp_74765 4097 p0 0 ls (tr_w h_p0 (by decide) (by decide)) (⟨by decide, by decide⟩ : 0 ≤ (0 : Int32).toInt ∧ (0 : Int32).toInt ≤ 4095) LF_self CL_zero (by have z_0 := tk_0; omega) (by have z9_0 := tk_0; omega) (lv_sub hl [0, 1, 2, 3] rfl)
