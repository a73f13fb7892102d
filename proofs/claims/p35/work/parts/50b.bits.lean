theorem qw_121 : Cond.methodLink RX12 197 yX12_to ∈ wsL_law := tseg_6 (by decide +kernel) (List.mem_of_getElem? (i := 106) (by decide +kernel))
theorem qw_122 : Cond.instanceMethod yX12_to ∈ wsL_law := tseg_6 (by decide +kernel) (List.mem_of_getElem? (i := 108) (by decide +kernel))
theorem qw_123 : Cond.selects RX12 yX12_to yX12_to ∈ wsL_law := List.mem_filter.mpr ⟨List.mem_append_left _ (List.mem_of_getElem? (i := 66) (by decide +kernel)), by decide +kernel⟩
theorem qw_124 : Cond.code yX12_to cX12_to 3 (some .int) ∈ wsL_law := tseg_6 (by decide +kernel) (List.mem_of_getElem? (i := 109) (by decide +kernel))
theorem qw_125 : Cond.fieldLink RX12 40 "ChanceRingsModel" "choice" "[I" ∈ wsL_law := tseg_5 (by decide +kernel) (List.mem_of_getElem? (i := 147) (by decide +kernel))
theorem qw_126 : Cond.methodLink RX12 208 yX12_onBits ∈ wsL_law := tseg_6 (by decide +kernel) (List.mem_of_getElem? (i := 149) (by decide +kernel))
theorem qw_127 : Cond.instanceMethod yX12_onBits ∈ wsL_law := tseg_6 (by decide +kernel) (List.mem_of_getElem? (i := 151) (by decide +kernel))
theorem qw_128 : Cond.selects RX12 yX12_onBits yX12_onBits ∈ wsL_law := List.mem_filter.mpr ⟨List.mem_append_left _ (List.mem_of_getElem? (i := 75) (by decide +kernel)), by decide +kernel⟩
theorem qw_129 : Cond.code yX12_onBits cX12_onBits 4 (some .int) ∈ wsL_law := tseg_6 (by decide +kernel) (List.mem_of_getElem? (i := 152) (by decide +kernel))
theorem dX12_bitOf_0 : decode cX12_bitOf 0 = .ok (.iload_n 0, 1) := by decide +kernel
theorem dX12_bitOf_1 : decode cX12_bitOf 1 = .ok (.iload_n 1, 1) := by decide +kernel
theorem dX12_bitOf_2 : decode cX12_bitOf 2 = .ok (.ishr, 1) := by decide +kernel
theorem dX12_bitOf_3 : decode cX12_bitOf 3 = .ok (.iconst 1, 1) := by decide +kernel
theorem dX12_bitOf_4 : decode cX12_bitOf 4 = .ok (.iand, 1) := by decide +kernel
theorem dX12_bitOf_5 : decode cX12_bitOf 5 = .ok (.iconst 1, 1) := by decide +kernel
theorem dX12_bitOf_6 : decode cX12_bitOf 6 = .ok (.if_icmp .ne 7, 3) := by decide +kernel
theorem dX12_bitOf_9 : decode cX12_bitOf 9 = .ok (.iconst 1, 1) := by decide +kernel
theorem dX12_bitOf_10 : decode cX12_bitOf 10 = .ok (.goto 4, 3) := by decide +kernel
theorem dX12_bitOf_13 : decode cX12_bitOf 13 = .ok (.iconst 0, 1) := by decide +kernel
theorem dX12_bitOf_14 : decode cX12_bitOf 14 = .ok (.ireturn, 1) := by decide +kernel
theorem dX12_comes_0 : decode cX12_comes 0 = .ok (.iload_n 1, 1) := by decide +kernel
theorem dX12_comes_1 : decode cX12_comes 1 = .ok (.istore_n 2, 1) := by decide +kernel
theorem dX12_comes_2 : decode cX12_comes 2 = .ok (.iconst 0, 1) := by decide +kernel
theorem dX12_comes_3 : decode cX12_comes 3 = .ok (.istore_n 3, 1) := by decide +kernel
theorem dX12_comes_4 : decode cX12_comes 4 = .ok (.iload_n 3, 1) := by decide +kernel
theorem dX12_comes_5 : decode cX12_comes 5 = .ok (.iload_n 2, 1) := by decide +kernel
theorem dX12_comes_6 : decode cX12_comes 6 = .ok (.if_icmp .eq 56, 3) := by decide +kernel
theorem dX12_comes_9 : decode cX12_comes 9 = .ok (.iload_n 2, 1) := by decide +kernel
theorem dX12_comes_10 : decode cX12_comes 10 = .ok (.istore_n 3, 1) := by decide +kernel
theorem dX12_comes_11 : decode cX12_comes 11 = .ok (.iconst 0, 1) := by decide +kernel
theorem dX12_comes_12 : decode cX12_comes 12 = .ok (.istore 4, 2) := by decide +kernel
theorem dX12_comes_14 : decode cX12_comes 14 = .ok (.iload 4, 2) := by decide +kernel
theorem dX12_comes_16 : decode cX12_comes 16 = .ok (.aload_n 0, 1) := by decide +kernel
theorem dX12_comes_17 : decode cX12_comes 17 = .ok (.getfield 13, 3) := by decide +kernel
theorem dX12_comes_20 : decode cX12_comes 20 = .ok (.iconst 0, 1) := by decide +kernel
theorem dX12_comes_21 : decode cX12_comes 21 = .ok (.iaload, 1) := by decide +kernel
theorem dX12_comes_22 : decode cX12_comes 22 = .ok (.if_icmp .ge 37, 3) := by decide +kernel
theorem dX12_comes_25 : decode cX12_comes 25 = .ok (.aload_n 0, 1) := by decide +kernel
theorem dX12_comes_26 : decode cX12_comes 26 = .ok (.iload 4, 2) := by decide +kernel
theorem dX12_comes_28 : decode cX12_comes 28 = .ok (.iconst 0, 1) := by decide +kernel
theorem dX12_comes_29 : decode cX12_comes 29 = .ok (.invokevirtual 187, 3) := by decide +kernel
theorem dX12_comes_32 : decode cX12_comes 32 = .ok (.ifCond .ne 21, 3) := by decide +kernel
theorem dX12_comes_35 : decode cX12_comes 35 = .ok (.aload_n 0, 1) := by decide +kernel
theorem dX12_comes_36 : decode cX12_comes 36 = .ok (.iload 4, 2) := by decide +kernel
theorem dX12_comes_38 : decode cX12_comes 38 = .ok (.invokevirtual 208, 3) := by decide +kernel
theorem dX12_comes_41 : decode cX12_comes 41 = .ok (.iload_n 2, 1) := by decide +kernel
theorem dX12_comes_42 : decode cX12_comes 42 = .ok (.iand, 1) := by decide +kernel
theorem dX12_comes_43 : decode cX12_comes 43 = .ok (.ifCond .eq 10, 3) := by decide +kernel
theorem dX12_comes_46 : decode cX12_comes 46 = .ok (.iload_n 2, 1) := by decide +kernel
theorem dX12_comes_47 : decode cX12_comes 47 = .ok (.iconst 1, 1) := by decide +kernel
theorem dX12_comes_48 : decode cX12_comes 48 = .ok (.iload 4, 2) := by decide +kernel
theorem dX12_comes_50 : decode cX12_comes 50 = .ok (.ishl, 1) := by decide +kernel
theorem dX12_comes_51 : decode cX12_comes 51 = .ok (.ior, 1) := by decide +kernel
theorem dX12_comes_52 : decode cX12_comes 52 = .ok (.istore_n 2, 1) := by decide +kernel
theorem dX12_comes_53 : decode cX12_comes 53 = .ok (.iinc 4 1, 3) := by decide +kernel
theorem dX12_comes_56 : decode cX12_comes 56 = .ok (.goto (-42), 3) := by decide +kernel
theorem dX12_comes_59 : decode cX12_comes 59 = .ok (.goto (-55), 3) := by decide +kernel
theorem dX12_comes_62 : decode cX12_comes 62 = .ok (.iload_n 2, 1) := by decide +kernel
theorem dX12_comes_63 : decode cX12_comes 63 = .ok (.ireturn, 1) := by decide +kernel
theorem dX12_ends_0 : decode cX12_ends 0 = .ok (.iconst 0, 1) := by decide +kernel
theorem dX12_ends_1 : decode cX12_ends 1 = .ok (.istore_n 1, 1) := by decide +kernel
theorem dX12_ends_2 : decode cX12_ends 2 = .ok (.iconst 0, 1) := by decide +kernel
theorem dX12_ends_3 : decode cX12_ends 3 = .ok (.istore_n 2, 1) := by decide +kernel
theorem dX12_ends_4 : decode cX12_ends 4 = .ok (.iload_n 2, 1) := by decide +kernel
theorem dX12_ends_5 : decode cX12_ends 5 = .ok (.aload_n 0, 1) := by decide +kernel
theorem dX12_ends_6 : decode cX12_ends 6 = .ok (.getfield 13, 3) := by decide +kernel
theorem dX12_ends_9 : decode cX12_ends 9 = .ok (.iconst 0, 1) := by decide +kernel
theorem dX12_ends_10 : decode cX12_ends 10 = .ok (.iaload, 1) := by decide +kernel
theorem dX12_ends_11 : decode cX12_ends 11 = .ok (.if_icmp .ge 28, 3) := by decide +kernel
theorem dX12_ends_14 : decode cX12_ends 14 = .ok (.iload_n 1, 1) := by decide +kernel
theorem dX12_ends_15 : decode cX12_ends 15 = .ok (.aload_n 0, 1) := by decide +kernel
theorem dX12_ends_16 : decode cX12_ends 16 = .ok (.iload_n 2, 1) := by decide +kernel
theorem dX12_ends_17 : decode cX12_ends 17 = .ok (.iconst 0, 1) := by decide +kernel
theorem dX12_ends_18 : decode cX12_ends 18 = .ok (.invokevirtual 187, 3) := by decide +kernel
theorem dX12_ends_21 : decode cX12_ends 21 = .ok (.ifCond .eq 9, 3) := by decide +kernel
theorem dX12_ends_24 : decode cX12_ends 24 = .ok (.iconst 1, 1) := by decide +kernel
theorem dX12_ends_25 : decode cX12_ends 25 = .ok (.iload_n 2, 1) := by decide +kernel
theorem dX12_ends_26 : decode cX12_ends 26 = .ok (.ishl, 1) := by decide +kernel
theorem dX12_ends_27 : decode cX12_ends 27 = .ok (.goto 4, 3) := by decide +kernel
theorem dX12_ends_30 : decode cX12_ends 30 = .ok (.iconst 0, 1) := by decide +kernel
theorem dX12_ends_31 : decode cX12_ends 31 = .ok (.ior, 1) := by decide +kernel
theorem dX12_ends_32 : decode cX12_ends 32 = .ok (.istore_n 1, 1) := by decide +kernel
theorem dX12_ends_33 : decode cX12_ends 33 = .ok (.iinc 2 1, 3) := by decide +kernel
theorem dX12_ends_36 : decode cX12_ends 36 = .ok (.goto (-32), 3) := by decide +kernel
theorem dX12_ends_39 : decode cX12_ends 39 = .ok (.iload_n 1, 1) := by decide +kernel
theorem dX12_ends_40 : decode cX12_ends 40 = .ok (.ireturn, 1) := by decide +kernel
theorem dX12_isPart_0 : decode cX12_isPart 0 = .ok (.iload_n 0, 1) := by decide +kernel
theorem dX12_isPart_1 : decode cX12_isPart 1 = .ok (.ifCond .eq 8, 3) := by decide +kernel
theorem dX12_isPart_4 : decode cX12_isPart 4 = .ok (.iload_n 0, 1) := by decide +kernel
theorem dX12_isPart_5 : decode cX12_isPart 5 = .ok (.iconst 1, 1) := by decide +kernel
theorem dX12_isPart_6 : decode cX12_isPart 6 = .ok (.if_icmp .ne 7, 3) := by decide +kernel
theorem dX12_isPart_9 : decode cX12_isPart 9 = .ok (.iconst 1, 1) := by decide +kernel
theorem dX12_isPart_10 : decode cX12_isPart 10 = .ok (.goto 4, 3) := by decide +kernel
theorem dX12_isPart_13 : decode cX12_isPart 13 = .ok (.iconst 0, 1) := by decide +kernel
theorem dX12_isPart_14 : decode cX12_isPart 14 = .ok (.ireturn, 1) := by decide +kernel
theorem dX12_onBits_0 : decode cX12_onBits 0 = .ok (.iconst 0, 1) := by decide +kernel
theorem dX12_onBits_1 : decode cX12_onBits 1 = .ok (.istore_n 2, 1) := by decide +kernel
theorem dX12_onBits_2 : decode cX12_onBits 2 = .ok (.iconst 0, 1) := by decide +kernel
theorem dX12_onBits_3 : decode cX12_onBits 3 = .ok (.istore_n 3, 1) := by decide +kernel
theorem dX12_onBits_4 : decode cX12_onBits 4 = .ok (.iload_n 3, 1) := by decide +kernel
theorem dX12_onBits_5 : decode cX12_onBits 5 = .ok (.aload_n 0, 1) := by decide +kernel
theorem dX12_onBits_6 : decode cX12_onBits 6 = .ok (.getfield 13, 3) := by decide +kernel
theorem dX12_onBits_9 : decode cX12_onBits 9 = .ok (.bipush 25, 2) := by decide +kernel
theorem dX12_onBits_11 : decode cX12_onBits 11 = .ok (.iload_n 1, 1) := by decide +kernel
theorem dX12_onBits_12 : decode cX12_onBits 12 = .ok (.iadd, 1) := by decide +kernel
theorem dX12_onBits_13 : decode cX12_onBits 13 = .ok (.iaload, 1) := by decide +kernel
theorem dX12_onBits_14 : decode cX12_onBits 14 = .ok (.if_icmp .ge 39, 3) := by decide +kernel
theorem dX12_onBits_17 : decode cX12_onBits 17 = .ok (.aload_n 0, 1) := by decide +kernel
theorem dX12_onBits_18 : decode cX12_onBits 18 = .ok (.iload_n 1, 1) := by decide +kernel
theorem dX12_onBits_19 : decode cX12_onBits 19 = .ok (.iconst 3, 1) := by decide +kernel
theorem dX12_onBits_20 : decode cX12_onBits 20 = .ok (.invokevirtual 187, 3) := by decide +kernel
theorem dX12_onBits_23 : decode cX12_onBits 23 = .ok (.ifCond .ne 13, 3) := by decide +kernel
theorem dX12_onBits_26 : decode cX12_onBits 26 = .ok (.aload_n 0, 1) := by decide +kernel
theorem dX12_onBits_27 : decode cX12_onBits 27 = .ok (.getfield 40, 3) := by decide +kernel
theorem dX12_onBits_30 : decode cX12_onBits 30 = .ok (.iload_n 1, 1) := by decide +kernel
theorem dX12_onBits_31 : decode cX12_onBits 31 = .ok (.iaload, 1) := by decide +kernel
theorem dX12_onBits_32 : decode cX12_onBits 32 = .ok (.iload_n 3, 1) := by decide +kernel
theorem dX12_onBits_33 : decode cX12_onBits 33 = .ok (.if_icmp .ne 14, 3) := by decide +kernel
theorem dX12_onBits_36 : decode cX12_onBits 36 = .ok (.iload_n 2, 1) := by decide +kernel
theorem dX12_onBits_37 : decode cX12_onBits 37 = .ok (.iconst 1, 1) := by decide +kernel
theorem dX12_onBits_38 : decode cX12_onBits 38 = .ok (.aload_n 0, 1) := by decide +kernel
theorem dX12_onBits_39 : decode cX12_onBits 39 = .ok (.iload_n 1, 1) := by decide +kernel
theorem dX12_onBits_40 : decode cX12_onBits 40 = .ok (.iload_n 3, 1) := by decide +kernel
theorem dX12_onBits_41 : decode cX12_onBits 41 = .ok (.invokevirtual 197, 3) := by decide +kernel
theorem dX12_onBits_44 : decode cX12_onBits 44 = .ok (.ishl, 1) := by decide +kernel
theorem dX12_onBits_45 : decode cX12_onBits 45 = .ok (.ior, 1) := by decide +kernel
theorem dX12_onBits_46 : decode cX12_onBits 46 = .ok (.istore_n 2, 1) := by decide +kernel
theorem dX12_onBits_47 : decode cX12_onBits 47 = .ok (.iinc 3 1, 3) := by decide +kernel
theorem dX12_onBits_50 : decode cX12_onBits 50 = .ok (.goto (-46), 3) := by decide +kernel
theorem dX12_onBits_53 : decode cX12_onBits 53 = .ok (.iload_n 2, 1) := by decide +kernel
theorem dX12_onBits_54 : decode cX12_onBits 54 = .ok (.ireturn, 1) := by decide +kernel
set_option maxHeartbeats 4000000 in
set_option maxRecDepth 100000 in
theorem c_X12_isPart (l : Launch) (D : va_G) (g : Nat → ClassId) (p0 : Int32) : Met l yX12_isPart (.code yX12_isPart cX12_isPart 1 (some .boolean) :: wsL_law) ({ frames := 0, cells := 0, slots := 0, locals := 0 }) (va_Pc [.int p0] (fun U => va_P D vwCl [] U.heap ∧ va_K D vwCl (TY g) U)) (vp_Si (fun r => (0 ≤ (r : Int32).toInt ∧ (r : Int32).toInt ≤ 1) ∧ (Hide (¬ (r : Int32).toInt = 0 → (p0 : Int32).toInt = 0 ∨ (p0 : Int32).toInt = 1)))) 0 0 (fun _ => False) := by
  refine Met.ofW (cc := cX12_isPart) (maxL := 1) (ret := (some .boolean)) (by decide) rfl ?_
  intro p e s m args below meth c s₁ B hml hv
  obtain ⟨ha, hP, hK⟩ := hv
  have hx := B.exec
  have hb := B.bytes
  have hr := B.returns
  have hts0 := atoms_spec (ws := (.code yX12_isPart cX12_isPart 1 (some .boolean) :: wsL_law)) B.pre
  have hts : ∀ w ∈ wsL_law, w.before args s = true := fun w h => hts0 w (List.mem_cons_of_mem _ h)
  have hown : s.vm.findClass RX12 = some m.cls := findClass_of_methodNamed B.named
  have hlocks := B.notSynchronized
  have hP : va_P D vwCl [] s.heap := hP
  refine W.eq (g2 := entryFrame m ([.int p0] : List Value).toArray 1) (by rw [ha]) ?_
  have hl := lv_entry ([.int p0]) (n := 1) (Nat.le_of_ble_eq_true rfl)
  rw [lg_entry_eq]
  generalize (lg_sl ([.int p0]) ++ List.replicate (1 - (lg_sl ([.int p0])).length) Slot.unset).toArray = ls at hl ⊢
  have hl : lv_has ls 1 [(0, .int p0)] := hl
  refine lv_iload_n hx hb dX12_isPart_0 rfl (lv_at hl 0 rfl) ?_
  refine lv_if_eq (tgt := 9) hx hb dX12_isPart_1 (by decide) (fun c_9219 => ?_) (fun c_9219 => ?_)
  · skip
    have kk_0 := tk_0
    have c_9219_i := c_9219
    have c_9219_i : (p0 : Int32).toInt = (0 : Int32).toInt := congrArg Int32.toInt c_9219
    have h_9220 : 0 ≤ (p0 : Int32).toInt ∧ (p0 : Int32).toInt ≤ 0 := by rw [c_9219]; exact ⟨by decide, by decide⟩
    refine lv_iconst (v := 1) hx hb dX12_isPart_9 (by decide) ?_
    refine lv_goto (tgt := 14) hx hb dX12_isPart_10 (by decide) ?_
    exact W.zret (v := 1) hx hb hr (by decide) (fun t ht hW => ⟨1, rfl, ⟨(⟨by decide, by decide⟩ : 0 ≤ (1 : Int32).toInt ∧ (1 : Int32).toInt ≤ 1), (fun h9 => (by have z_0 := tk_0; have z_1 := tk_1; omega))⟩, ht⟩) (fun _ h => nomatch h) dX12_isPart_14
  · skip
    have kk_0 := tk_0
    have c_9219_i := c_9219
    have c_9219_i : ¬ (p0 : Int32).toInt = (0 : Int32).toInt := (fun q => c_9219 (Int32.toInt_inj.mp q))
    refine lv_iload_n hx hb dX12_isPart_4 rfl (lv_at hl 0 rfl) ?_
    refine lv_iconst (v := 1) hx hb dX12_isPart_5 (by decide) ?_
    refine lv_icmp_ne (tgt := 13) hx hb dX12_isPart_6 (by decide) (fun c_9221 => ?_) (fun c_9221 => ?_)
    · skip
      have kk_1 := tk_1
      have c_9221_i := c_9221
      have c_9221_i : ¬ (p0 : Int32).toInt = (1 : Int32).toInt := (fun q => c_9221 (Int32.toInt_inj.mp q))
      refine lv_iconst (v := 0) hx hb dX12_isPart_13 (by decide) ?_
      exact W.zret (v := 0) hx hb hr (by decide) (fun t ht hW => ⟨0, rfl, ⟨(⟨by decide, by decide⟩ : 0 ≤ (0 : Int32).toInt ∧ (0 : Int32).toInt ≤ 1), (fun h9 => (by have z_0 := tk_0; have z_1 := tk_1; omega))⟩, ht⟩) (fun _ h => nomatch h) dX12_isPart_14
    · skip
      have kk_1 := tk_1
      have c_9221_i := c_9221
      have c_9221_i : (p0 : Int32).toInt = (1 : Int32).toInt := congrArg Int32.toInt c_9221
      have h_9222 : 1 ≤ (p0 : Int32).toInt ∧ (p0 : Int32).toInt ≤ 1 := by rw [c_9221]; exact ⟨by decide, by decide⟩
      refine lv_iconst (v := 1) hx hb dX12_isPart_9 (by decide) ?_
      refine lv_goto (tgt := 14) hx hb dX12_isPart_10 (by decide) ?_
      exact W.zret (v := 1) hx hb hr (by decide) (fun t ht hW => ⟨1, rfl, ⟨(⟨by decide, by decide⟩ : 0 ≤ (1 : Int32).toInt ∧ (1 : Int32).toInt ≤ 1), (fun h9 => (by have z_0 := tk_0; have z_1 := tk_1; omega))⟩, ht⟩) (fun _ h => nomatch h) dX12_isPart_14
set_option maxHeartbeats 4000000 in
set_option maxRecDepth 100000 in
theorem c_X12_bitOf (l : Launch) (D : va_G) (g : Nat → ClassId) (p0 : Int32) (p1 : Int32) : Met l yX12_bitOf (.code yX12_bitOf cX12_bitOf 2 (some .boolean) :: wsL_law) ({ frames := 0, cells := 0, slots := 0, locals := 0 }) (va_Pc [.int p0, .int p1] (fun U => va_P D vwCl [] U.heap ∧ va_K D vwCl (TY g) U)) (vp_Si (fun r => 0 ≤ (r : Int32).toInt ∧ (r : Int32).toInt ≤ 1)) 0 0 (fun _ => False) := by
  refine Met.ofW (cc := cX12_bitOf) (maxL := 2) (ret := (some .boolean)) (by decide) rfl ?_
  intro p e s m args below meth c s₁ B hml hv
  obtain ⟨ha, hP, hK⟩ := hv
  have hx := B.exec
  have hb := B.bytes
  have hr := B.returns
  have hts0 := atoms_spec (ws := (.code yX12_bitOf cX12_bitOf 2 (some .boolean) :: wsL_law)) B.pre
  have hts : ∀ w ∈ wsL_law, w.before args s = true := fun w h => hts0 w (List.mem_cons_of_mem _ h)
  have hown : s.vm.findClass RX12 = some m.cls := findClass_of_methodNamed B.named
  have hlocks := B.notSynchronized
  have hP : va_P D vwCl [] s.heap := hP
  refine W.eq (g2 := entryFrame m ([.int p0, .int p1] : List Value).toArray 2) (by rw [ha]) ?_
  have hl := lv_entry ([.int p0, .int p1]) (n := 2) (Nat.le_of_ble_eq_true rfl)
  rw [lg_entry_eq]
  generalize (lg_sl ([.int p0, .int p1]) ++ List.replicate (2 - (lg_sl ([.int p0, .int p1])).length) Slot.unset).toArray = ls at hl ⊢
  have hl : lv_has ls 2 [(0, .int p0), (1, .int p1)] := hl
  refine lv_iload_n hx hb dX12_bitOf_0 rfl (lv_at hl 0 rfl) ?_
  refine lv_iload_n hx hb dX12_bitOf_1 rfl (lv_at hl 1 rfl) ?_
  refine lv_ishr hx hb dX12_bitOf_2 ?_
  refine lv_topi (fun v_9223 v_9223_e => ?_)
  refine lv_iconst (v := 1) hx hb dX12_bitOf_3 (by decide) ?_
  refine lv_iand hx hb dX12_bitOf_4 ?_
  refine lv_topi (fun v_9224 v_9224_e => ?_)
  refine lv_iconst (v := 1) hx hb dX12_bitOf_5 (by decide) ?_
  refine lv_icmp_ne (tgt := 13) hx hb dX12_bitOf_6 (by decide) (fun c_9225 => ?_) (fun c_9225 => ?_)
  · skip
    have kk_1 := tk_1
    have c_9225_i := c_9225
    have c_9225_i : ¬ (v_9224 : Int32).toInt = (1 : Int32).toInt := (fun q => c_9225 (Int32.toInt_inj.mp q))
    refine lv_iconst (v := 0) hx hb dX12_bitOf_13 (by decide) ?_
    exact W.zret (v := 0) hx hb hr (by decide) (fun t ht hW => ⟨0, rfl, (⟨by decide, by decide⟩ : 0 ≤ (0 : Int32).toInt ∧ (0 : Int32).toInt ≤ 1), ht⟩) (fun _ h => nomatch h) dX12_bitOf_14
  · skip
    have kk_1 := tk_1
    have c_9225_i := c_9225
    have c_9225_i : (v_9224 : Int32).toInt = (1 : Int32).toInt := congrArg Int32.toInt c_9225
    have h_9226 : 1 ≤ (v_9224 : Int32).toInt ∧ (v_9224 : Int32).toInt ≤ 1 := by rw [c_9225]; exact ⟨by decide, by decide⟩
    refine lv_iconst (v := 1) hx hb dX12_bitOf_9 (by decide) ?_
    refine lv_goto (tgt := 14) hx hb dX12_bitOf_10 (by decide) ?_
    exact W.zret (v := 1) hx hb hr (by decide) (fun t ht hW => ⟨1, rfl, (⟨by decide, by decide⟩ : 0 ≤ (1 : Int32).toInt ∧ (1 : Int32).toInt ≤ 1), ht⟩) (fun _ h => nomatch h) dX12_bitOf_14
set_option maxHeartbeats 4000000 in
set_option maxRecDepth 100000 in
theorem c_X12_bitOf2 (l : Launch) (D : va_G) (g : Nat → ClassId) (p0 : Int32) (p1 : Int32) (h_p0 : 0 ≤ (p0 : Int32).toInt ∧ (p0 : Int32).toInt ≤ 4095) (h_p1 : 0 ≤ (p1 : Int32).toInt ∧ (p1 : Int32).toInt ≤ 11) : Met l yX12_bitOf (.code yX12_bitOf cX12_bitOf 2 (some .boolean) :: wsL_law) ({ frames := 0, cells := 0, slots := 0, locals := 0 }) (va_Pc [.int p0, .int p1] (fun U => va_P D vwCl [] U.heap ∧ va_K D vwCl (TY g) U)) (vp_Si (fun r => (0 ≤ (r : Int32).toInt ∧ (r : Int32).toInt ≤ 1) ∧ (Hide (¬ (r : Int32).toInt = 0 → bt p0 (p1 : Int32).toInt.toNat)) ∧ (Hide ((r : Int32).toInt = 0 → ¬ bt p0 (p1 : Int32).toInt.toNat)))) 0 0 (fun _ => False) := by
  refine Met.ofW (cc := cX12_bitOf) (maxL := 2) (ret := (some .boolean)) (by decide) rfl ?_
  intro p e s m args below meth c s₁ B hml hv
  obtain ⟨ha, hP, hK⟩ := hv
  have hx := B.exec
  have hb := B.bytes
  have hr := B.returns
  have hts0 := atoms_spec (ws := (.code yX12_bitOf cX12_bitOf 2 (some .boolean) :: wsL_law)) B.pre
  have hts : ∀ w ∈ wsL_law, w.before args s = true := fun w h => hts0 w (List.mem_cons_of_mem _ h)
  have hown : s.vm.findClass RX12 = some m.cls := findClass_of_methodNamed B.named
  have hlocks := B.notSynchronized
  have hP : va_P D vwCl [] s.heap := hP
  refine W.eq (g2 := entryFrame m ([.int p0, .int p1] : List Value).toArray 2) (by rw [ha]) ?_
  have hl := lv_entry ([.int p0, .int p1]) (n := 2) (Nat.le_of_ble_eq_true rfl)
  rw [lg_entry_eq]
  generalize (lg_sl ([.int p0, .int p1]) ++ List.replicate (2 - (lg_sl ([.int p0, .int p1])).length) Slot.unset).toArray = ls at hl ⊢
  have hl : lv_has ls 2 [(0, .int p0), (1, .int p1)] := hl
  refine lv_iload_n hx hb dX12_bitOf_0 rfl (lv_at hl 0 rfl) ?_
  refine lv_iload_n hx hb dX12_bitOf_1 rfl (lv_at hl 1 rfl) ?_
  refine lv_ishr hx hb dX12_bitOf_2 ?_
  refine lv_topi (fun v_9227 v_9227_e => ?_)
  refine lv_iconst (v := 1) hx hb dX12_bitOf_3 (by decide) ?_
  refine lv_iand hx hb dX12_bitOf_4 ?_
  refine lv_topi (fun v_9228 v_9228_e => ?_)
  refine lv_iconst (v := 1) hx hb dX12_bitOf_5 (by decide) ?_
  refine lv_icmp_ne (tgt := 13) hx hb dX12_bitOf_6 (by decide) (fun c_9229 => ?_) (fun c_9229 => ?_)
  · skip
    have kk_1 := tk_1
    have c_9229_i := c_9229
    have c_9229_i : ¬ (v_9228 : Int32).toInt = (1 : Int32).toInt := (fun q => c_9229 (Int32.toInt_inj.mp q))
    refine lv_iconst (v := 0) hx hb dX12_bitOf_13 (by decide) ?_
    exact W.zret (v := 0) hx hb hr (by decide) (fun t ht hW => ⟨0, rfl, ⟨(⟨by decide, by decide⟩ : 0 ≤ (0 : Int32).toInt ∧ (0 : Int32).toInt ≤ 1), (fun h9 => absurd h9 (by decide)), (fun _ h8 => c_9229 (by rw [v_9228_e, v_9227_e]; exact (tr_bit h_p0 h_p1).mpr h8))⟩, ht⟩) (fun _ h => nomatch h) dX12_bitOf_14
  · skip
    have kk_1 := tk_1
    have c_9229_i := c_9229
    have c_9229_i : (v_9228 : Int32).toInt = (1 : Int32).toInt := congrArg Int32.toInt c_9229
    have h_9230 : 1 ≤ (v_9228 : Int32).toInt ∧ (v_9228 : Int32).toInt ≤ 1 := by rw [c_9229]; exact ⟨by decide, by decide⟩
    refine lv_iconst (v := 1) hx hb dX12_bitOf_9 (by decide) ?_
    refine lv_goto (tgt := 14) hx hb dX12_bitOf_10 (by decide) ?_
    exact W.zret (v := 1) hx hb hr (by decide) (fun t ht hW => ⟨1, rfl, ⟨(⟨by decide, by decide⟩ : 0 ≤ (1 : Int32).toInt ∧ (1 : Int32).toInt ≤ 1), (fun _ => (tr_bit h_p0 h_p1).mp (by rw [← v_9227_e, ← v_9228_e]; exact c_9229)), (fun h9 => absurd h9 (by decide))⟩, ht⟩) (fun _ h => nomatch h) dX12_bitOf_14
set_option maxHeartbeats 4000000 in
set_option maxRecDepth 100000 in
theorem c_X12_onBits (l : Launch) (D : va_G) (g : Nat → ClassId) (mm : Nat) (p0 : Int32) (i_thrown : Int32) (m_s : Nat) (m_spare : Nat) (m_kept : Nat) (m_undone : Nat) (m_triedWay : Nat) (m_isKept : Nat) (i_undoMany : Int32) (m_tape : Nat) (i_length : Int32) (i_size : Int32) (i_p : Int32) (i_at : Int32) (i_token : Int32) (i_number : Int32) (i_letterMany : Int32) (i_fault : Int32) (i_faultAt : Int32) (m_letters : Nat) (i_isKnown : Int32) (m_choice : Nat) (m_row : Nat) (m_up : Nat) (m_low : Nat) (m_m : Nat) (m_bestUp : Nat) (m_bestLow : Nat) (m_replyUp : Nat) (m_replyLow : Nat) (m_worthUp : Nat) (m_worthLow : Nat) (m_bestWay : Nat) (i_seed : Int32) (m_told : Nat) (i_toldMany : Int32) (sf : Nat → Int32) (chf : Nat → Int32) (h_p0 : 0 ≤ (p0 : Int32).toInt ∧ (p0 : Int32).toInt ≤ 11) (h_i_undoMany : 0 ≤ (i_undoMany : Int32).toInt ∧ (i_undoMany : Int32).toInt ≤ 8) (h_i_length : 0 ≤ (i_length : Int32).toInt ∧ (i_length : Int32).toInt ≤ 440) (h_i_size : 0 ≤ (i_size : Int32).toInt ∧ (i_size : Int32).toInt ≤ 440) (h_i_p : 0 ≤ (i_p : Int32).toInt ∧ (i_p : Int32).toInt ≤ 440) (h_i_at : 0 ≤ (i_at : Int32).toInt ∧ (i_at : Int32).toInt ≤ 440) (h_i_token : 0 ≤ (i_token : Int32).toInt ∧ (i_token : Int32).toInt ≤ 4) (h_i_number : 0 ≤ (i_number : Int32).toInt ∧ (i_number : Int32).toInt ≤ 814) (h_i_letterMany : (-440) ≤ (i_letterMany : Int32).toInt ∧ (i_letterMany : Int32).toInt ≤ 440) (h_i_isKnown : 0 ≤ (i_isKnown : Int32).toInt ∧ (i_isKnown : Int32).toInt ≤ 1) (h_i_toldMany : 0 ≤ (i_toldMany : Int32).toInt ∧ (i_toldMany : Int32).toInt ≤ 900) (h_chf : ∀ j : Nat, 0 ≤ (chf j).toInt ∧ (chf j).toInt ≤ 2) (hG : GS sf) : Met l yX12_onBits (.code yX12_onBits cX12_onBits 4 (some .int) :: wsL_law) ({ frames := 1, cells := 0, slots := 0, locals := 22 }) (va_Pc [.ref mm, .int p0] (fun U => va_P D vwCl [(mm, .inr (12, (.int i_thrown :: .ref m_s :: .ref m_spare :: .ref m_kept :: .ref m_undone :: .ref m_triedWay :: .ref m_isKept :: .int i_undoMany :: .ref m_tape :: .int i_length :: .int i_size :: .int i_p :: .int i_at :: .int i_token :: .int i_number :: .int i_letterMany :: .int i_fault :: .int i_faultAt :: .ref m_letters :: .int i_isKnown :: .ref m_choice :: .ref m_row :: .ref m_up :: .ref m_low :: .ref m_m :: .ref m_bestUp :: .ref m_bestLow :: .ref m_replyUp :: .ref m_replyLow :: .ref m_worthUp :: .ref m_worthLow :: .ref m_bestWay :: .int i_seed :: .ref m_told :: .int i_toldMany :: []))), (m_s, .inl (g 0, 193, .inl sf)), (m_choice, .inl (g 0, 12, .inl chf))] U.heap ∧ va_K D vwCl (TY g) U)) (vp_Si (fun r => (0 ≤ (r : Int32).toInt ∧ (r : Int32).toInt ≤ 4095) ∧ (∀ j : Nat, bt r j ↔ ON sf chf (p0 : Int32).toInt.toNat j))) 0 0 (fun _ => False) := by
  refine Met.ofW (cc := cX12_onBits) (maxL := 4) (ret := (some .int)) (by decide) rfl ?_
  intro p e s m args below meth c s₁ B hml hv
  obtain ⟨ha, hP, hK⟩ := hv
  have hx := B.exec
  have hb := B.bytes
  have hr := B.returns
  have hts0 := atoms_spec (ws := (.code yX12_onBits cX12_onBits 4 (some .int) :: wsL_law)) B.pre
  have hts : ∀ w ∈ wsL_law, w.before args s = true := fun w h => hts0 w (List.mem_cons_of_mem _ h)
  have hown : s.vm.findClass RX12 = some m.cls := findClass_of_methodNamed B.named
  have hlocks := B.notSynchronized
  have hP : va_P D vwCl [(mm, .inr (12, (.int i_thrown :: .ref m_s :: .ref m_spare :: .ref m_kept :: .ref m_undone :: .ref m_triedWay :: .ref m_isKept :: .int i_undoMany :: .ref m_tape :: .int i_length :: .int i_size :: .int i_p :: .int i_at :: .int i_token :: .int i_number :: .int i_letterMany :: .int i_fault :: .int i_faultAt :: .ref m_letters :: .int i_isKnown :: .ref m_choice :: .ref m_row :: .ref m_up :: .ref m_low :: .ref m_m :: .ref m_bestUp :: .ref m_bestLow :: .ref m_replyUp :: .ref m_replyLow :: .ref m_worthUp :: .ref m_worthLow :: .ref m_bestWay :: .int i_seed :: .ref m_told :: .int i_toldMany :: []))), (m_s, .inl (g 0, 193, .inl sf)), (m_choice, .inl (g 0, 12, .inl chf))] s.heap := hP
  refine W.eq (g2 := entryFrame m ([.ref mm, .int p0] : List Value).toArray 4) (by rw [ha]) ?_
  have hl := lv_entry ([.ref mm, .int p0]) (n := 4) (Nat.le_of_ble_eq_true rfl)
  rw [lg_entry_eq]
  generalize (lg_sl ([.ref mm, .int p0]) ++ List.replicate (4 - (lg_sl ([.ref mm, .int p0])).length) Slot.unset).toArray = ls at hl ⊢
  have hl : lv_has ls 4 [(0, .ref mm), (1, .int p0)] := hl
  refine lv_iconst (v := 0) hx hb dX12_onBits_0 (by decide) ?_
  refine lv_istore_n (lv' := [(2, .int 0), (0, .ref mm), (1, .int p0)]) hx hb dX12_onBits_1 rfl hl (by decide) rfl (fun ls hl => ?_)
  refine lv_iconst (v := 0) hx hb dX12_onBits_2 (by decide) ?_
  refine lv_istore_n (lv' := [(3, .int 0), (2, .int 0), (0, .ref mm), (1, .int p0)]) hx hb dX12_onBits_3 rfl hl (by decide) rfl (fun ls hl => ?_)
  have lp_9258 : ∀ (n_9258 : Nat) (x_9256 : Int32) (x_9257 : Int32) (ls : Array Slot), (0 ≤ (x_9256 : Int32).toInt ∧ (x_9256 : Int32).toInt ≤ 4095) → (0 ≤ (x_9257 : Int32).toInt ∧ (x_9257 : Int32).toInt ≤ 3) → (∀ j : Nat, bt x_9256 j ↔ ONi sf chf (p0 : Int32).toInt.toNat x_9257.toInt.toNat j) → (x_9257.toInt ≤ (sf (25 + (p0 : Int32).toInt.toNat)).toInt) → (3 - x_9257.toInt < (n_9258 : Int)) → lv_has ls 4 [(3, .int x_9257), (2, .int x_9256), (0, .ref mm), (1, .int p0)] → W p l e (headSpec (.code yX12_onBits cX12_onBits 4 (some .int) :: wsL_law) ({ frames := 1, cells := 0, slots := 0, locals := 22 })).room s m args below meth c s.heap [] 0 0 (MQ below (vp_Si (fun r => (0 ≤ (r : Int32).toInt ∧ (r : Int32).toInt ≤ 4095) ∧ (∀ j : Nat, bt r j ↔ ON sf chf (p0 : Int32).toInt.toNat j))) args s 0 0 (fun _ => False)) (F0 m 4 ls []) := by
    intro n_9258
    induction n_9258 with
    | zero =>
      intro x_9256 x_9257 ls h_x_9256 h_x_9257 hr9258_0 hr9258_1 hm_9258 hl
      exfalso; omega
    | succ n_9258 ih_9258 =>
      intro x_9256 x_9257 ls h_x_9256 h_x_9257 hr9258_0 hr9258_1 hm_9258 hl
      refine lv_iload_n hx hb dX12_onBits_4 rfl (lv_at hl 0 rfl) ?_
      refine lv_aload_n hx hb dX12_onBits_5 rfl (lv_at hl 2 rfl) ?_
      refine va_get (D := D) (ci := 12) (v := .ref m_s) (C := RX12) (T := TX12) (N := 35) hx hb hts inlX12 hown hK hP 0 rfl rfl 1 (by decide) (hts (Cond.fieldLink RX12 13 "ChanceRingsModel" "s" "[I") qw_73) (fun _ h9 => h9) rfl dX12_onBits_6 ?_
      refine lv_bipush (v := 25) hx hb dX12_onBits_9 (by decide) ?_
      refine lv_iload_n hx hb dX12_onBits_11 rfl (lv_at hl 3 rfl) ?_
      refine lv_iadd hx hb dX12_onBits_12 ?_
      refine lv_topi (fun v_9259 v_9259_e => ?_)
      have h_v_9259 : 25 ≤ (v_9259 : Int32).toInt ∧ (v_9259 : Int32).toInt ≤ 36 := by rw [v_9259_e]; exact tr_add (⟨by decide, by decide⟩ : 25 ≤ (25 : Int32).toInt ∧ (25 : Int32).toInt ≤ 25) h_p0 (by decide) (by decide) (by decide) (by decide)
      have q_v_9259 : v_9259.toInt = 25 + p0.toInt := by rw [v_9259_e]; exact (tr_addX (⟨by decide, by decide⟩ : 25 ≤ (25 : Int32).toInt ∧ (25 : Int32).toInt ≤ 25) h_p0 (by decide) (by decide)).trans (by rw [tk_25])
      refine va_iald hx hb hK hP 1 0 rfl rfl (tr_in h_v_9259 (by decide) (by decide)) dX12_onBits_13 ?_
      refine lv_topi (fun v_9260 v_9260_e => ?_)
      have h_v_9260 : 0 ≤ (v_9260 : Int32).toInt ∧ (v_9260 : Int32).toInt ≤ 3 := by rw [v_9260_e]; exact gr_ways hG.r (tr_w h_v_9259 (by decide) (by decide))
      have g_v_9260 : v_9260 = sf (25 + p0.toInt.toNat) := v_9260_e.trans (congrArg sf (by show Int.toNat _ = _; omega))
      have gi_v_9260 := congrArg Int32.toInt g_v_9260
      refine lv_icmp_ge (tgt := 53) hx hb dX12_onBits_14 (by decide) (fun c_9261 => ?_) (fun c_9261 => ?_)
      · skip
        have c_9261_i := Int32.le_iff_toInt_le.mp c_9261
        refine lv_iload_n hx hb dX12_onBits_53 rfl (lv_at hl 1 rfl) ?_
        exact W.iret (v := x_9256) hx hb hr (fun t ht hW => ⟨x_9256, rfl, ⟨(tr_w h_x_9256 (by decide) (by decide)), (on_done hr9258_0 (by omega))⟩, ht⟩) (fun _ h => nomatch h) dX12_onBits_54
      · skip
        have c_9261_i := Int32.lt_iff_toInt_lt.mp (Int32.not_le.mp c_9261)
        have c_9261_i := Int32.lt_iff_toInt_lt.mp (Int32.not_le.mp c_9261)
        have h_9262 : 0 ≤ (x_9257 : Int32).toInt ∧ (x_9257 : Int32).toInt ≤ 2 := by have q1 := h_x_9257; have q2 := h_v_9260; omega
        have h_9263 : 1 ≤ (v_9260 : Int32).toInt ∧ (v_9260 : Int32).toInt ≤ 3 := by have q1 := h_x_9257; have q2 := h_v_9260; omega
        refine lv_aload_n hx hb dX12_onBits_17 rfl (lv_at hl 2 rfl) ?_
        refine lv_iload_n hx hb dX12_onBits_18 rfl (lv_at hl 3 rfl) ?_
        refine lv_iconst (v := 3) hx hb dX12_onBits_19 (by decide) ?_
        have hPc := hP.sub (ws' := [(mm, .inr (12, (.int i_thrown :: .ref m_s :: .ref m_spare :: .ref m_kept :: .ref m_undone :: .ref m_triedWay :: .ref m_isKept :: .int i_undoMany :: .ref m_tape :: .int i_length :: .int i_size :: .int i_p :: .int i_at :: .int i_token :: .int i_number :: .int i_letterMany :: .int i_fault :: .int i_faultAt :: .ref m_letters :: .int i_isKnown :: .ref m_choice :: .ref m_row :: .ref m_up :: .ref m_low :: .ref m_m :: .ref m_bestUp :: .ref m_bestLow :: .ref m_replyUp :: .ref m_replyLow :: .ref m_worthUp :: .ref m_worthLow :: .ref m_bestWay :: .int i_seed :: .ref m_told :: .int i_toldMany :: []))), (m_s, .inl (g 0, 193, .inl sf))]) [0, 1] rfl
        refine vp_callSi (va_Run.run (va_runV (As := [.int p0, .int 3]) (rest := []) ⟨hx, hb, hml, hown, hts⟩ (c_X12_isKind l D g mm p0 3 i_thrown m_s m_spare m_kept m_undone m_triedWay m_isKept i_undoMany m_tape i_length i_size i_p i_at i_token i_number i_letterMany i_fault i_faultAt m_letters i_isKnown m_choice m_row m_up m_low m_m m_bestUp m_bestLow m_replyUp m_replyLow m_worthUp m_worthLow m_bestWay i_seed m_told i_toldMany sf (tr_w h_p0 (by decide) (by decide)) (tr_w h_i_undoMany (by decide) (by decide)) (tr_w h_i_length (by decide) (by decide)) (tr_w h_i_size (by decide) (by decide)) (tr_w h_i_p (by decide) (by decide)) (tr_w h_i_at (by decide) (by decide)) (tr_w h_i_token (by decide) (by decide)) (tr_w h_i_number (by decide) (by decide)) (tr_w h_i_letterMany (by decide) (by decide)) (tr_w h_i_isKnown (by decide) (by decide)) (tr_w h_i_toldMany (by decide) (by decide)) hG) (cwV 2 hts (tz_gV qw_94 qw_95 qw_96 qw_3 qw_97) rfl rfl rfl (by decide +kernel) ⟨Nat.le_of_ble_eq_true rfl, Nat.le_of_ble_eq_true rfl⟩) ⟨tz_blS, va_recv hK hPc (ci := 12) (q0 := 0) rfl rfl, tz_preS hPc hK⟩ rfl rfl hl.1 rfl (lv_room (Nat.le_of_ble_eq_true rfl)) dX12_onBits_20 ⟨Nat.le_of_ble_eq_true rfl, Nat.le_of_ble_eq_true rfl⟩)) (fun r_9264 hw => ?_)
        have kk_3 := tk_3
        have hw_9265 : 0 ≤ (r_9264 : Int32).toInt ∧ (r_9264 : Int32).toInt ≤ 1 := hw.1
        have hw_9265_p0 : Hide (¬ (r_9264 : Int32).toInt = 0 → (sf (1 + (p0 : Int32).toInt.toNat)).toInt = (3 : Int32).toInt) := hw.2.1
        have hw_9265_p1 : Hide ((r_9264 : Int32).toInt = 0 → ¬ (sf (1 + (p0 : Int32).toInt.toNat)).toInt = (3 : Int32).toInt) := hw.2.2
        refine lv_if_ne (tgt := 36) hx hb dX12_onBits_23 (by decide) (fun c_9266 => ?_) (fun c_9266 => ?_)
        · skip
          have kk_0 := tk_0
          have c_9266_i := c_9266
          have c_9266_i : ¬ (r_9264 : Int32).toInt = (0 : Int32).toInt := (fun q => c_9266 (Int32.toInt_inj.mp q))
          have hw_9265_p0_u := (hw_9265_p0).get (fun q => c_9266_i (q.trans tk_0.symm))
          have c_9266_i := c_9266
          have c_9266_i : ¬ (r_9264 : Int32).toInt = (0 : Int32).toInt := (fun q => c_9266 (Int32.toInt_inj.mp q))
          have h_9267 : 1 ≤ (r_9264 : Int32).toInt ∧ (r_9264 : Int32).toInt ≤ 1 := by have q1 := hw_9265; have q2 := (⟨by decide, by decide⟩ : 0 ≤ (0 : Int32).toInt ∧ (0 : Int32).toInt ≤ 0); omega
          refine lv_iload_n hx hb dX12_onBits_36 rfl (lv_at hl 1 rfl) ?_
          refine lv_iconst (v := 1) hx hb dX12_onBits_37 (by decide) ?_
          refine lv_aload_n hx hb dX12_onBits_38 rfl (lv_at hl 2 rfl) ?_
          refine lv_iload_n hx hb dX12_onBits_39 rfl (lv_at hl 3 rfl) ?_
          refine lv_iload_n hx hb dX12_onBits_40 rfl (lv_at hl 0 rfl) ?_
          have hPc := hP.sub (ws' := [(mm, .inr (12, (.int i_thrown :: .ref m_s :: .ref m_spare :: .ref m_kept :: .ref m_undone :: .ref m_triedWay :: .ref m_isKept :: .int i_undoMany :: .ref m_tape :: .int i_length :: .int i_size :: .int i_p :: .int i_at :: .int i_token :: .int i_number :: .int i_letterMany :: .int i_fault :: .int i_faultAt :: .ref m_letters :: .int i_isKnown :: .ref m_choice :: .ref m_row :: .ref m_up :: .ref m_low :: .ref m_m :: .ref m_bestUp :: .ref m_bestLow :: .ref m_replyUp :: .ref m_replyLow :: .ref m_worthUp :: .ref m_worthLow :: .ref m_bestWay :: .int i_seed :: .ref m_told :: .int i_toldMany :: []))), (m_s, .inl (g 0, 193, .inl sf))]) [0, 1] rfl
          refine vp_callSi (va_Run.run (va_runV (As := [.int p0, .int x_9257]) (rest := [.int 1, .int x_9256]) ⟨hx, hb, hml, hown, hts⟩ (c_X12_to l D g mm p0 x_9257 i_thrown m_s m_spare m_kept m_undone m_triedWay m_isKept i_undoMany m_tape i_length i_size i_p i_at i_token i_number i_letterMany i_fault i_faultAt m_letters i_isKnown m_choice m_row m_up m_low m_m m_bestUp m_bestLow m_replyUp m_replyLow m_worthUp m_worthLow m_bestWay i_seed m_told i_toldMany sf (tr_w h_p0 (by decide) (by decide)) (tr_w h_9262 (by decide) (by decide)) (tr_w h_i_undoMany (by decide) (by decide)) (tr_w h_i_length (by decide) (by decide)) (tr_w h_i_size (by decide) (by decide)) (tr_w h_i_p (by decide) (by decide)) (tr_w h_i_at (by decide) (by decide)) (tr_w h_i_token (by decide) (by decide)) (tr_w h_i_number (by decide) (by decide)) (tr_w h_i_letterMany (by decide) (by decide)) (tr_w h_i_isKnown (by decide) (by decide)) (tr_w h_i_toldMany (by decide) (by decide)) hG) (cwV 2 hts (tz_gV qw_121 qw_122 qw_123 qw_3 qw_124) rfl rfl rfl (by decide +kernel) ⟨Nat.le_of_ble_eq_true rfl, Nat.le_of_ble_eq_true rfl⟩) ⟨tz_blS, va_recv hK hPc (ci := 12) (q0 := 0) rfl rfl, tz_preS hPc hK⟩ rfl rfl hl.1 rfl (lv_room (Nat.le_of_ble_eq_true rfl)) dX12_onBits_41 ⟨Nat.le_of_ble_eq_true rfl, Nat.le_of_ble_eq_true rfl⟩)) (fun r_9269 hw => ?_)
          have hw_9270 : 0 ≤ (r_9269 : Int32).toInt ∧ (r_9269 : Int32).toInt ≤ 11 := hw.1
          have hw_9270_p0 : (r_9269 : Int32) = sf (37 + 3 * (p0 : Int32).toInt.toNat + (x_9257 : Int32).toInt.toNat) := hw.2
          refine lv_ishl hx hb dX12_onBits_44 ?_
          refine lv_topi (fun v_9271 v_9271_e => ?_)
          have h_v_9271 : 0 ≤ (v_9271 : Int32).toInt ∧ (v_9271 : Int32).toInt ≤ 4095 := by rw [v_9271_e]; exact tr_shl12 (tr_w hw_9270 (by decide) (by decide))
          refine lv_ior hx hb dX12_onBits_45 ?_
          refine lv_topi (fun v_9272 v_9272_e => ?_)
          have h_v_9272 : 0 ≤ (v_9272 : Int32).toInt ∧ (v_9272 : Int32).toInt ≤ 4095 := by rw [v_9272_e]; exact (tr_or12 (tr_w h_x_9256 (by decide) (by decide)) (tr_w h_v_9271 (by decide) (by decide))).1
          have o_v_9272 : (x_9256 : Int32).toInt ≤ (v_9272 : Int32).toInt := by rw [v_9272_e]; exact (tr_or12 (tr_w h_x_9256 (by decide) (by decide)) (tr_w h_v_9271 (by decide) (by decide))).2
          refine lv_istore_n (lv' := [(2, .int v_9272), (3, .int x_9257), (0, .ref mm), (1, .int p0)]) hx hb dX12_onBits_46 rfl hl (by decide) rfl (fun ls hl => ?_)
          obtain ⟨v_9273, v_9273_e⟩ : ∃ y : Int32, y = x_9257 + Int32.ofInt 1 := ⟨_, rfl⟩
          have h_v_9273 : 1 ≤ (v_9273 : Int32).toInt ∧ (v_9273 : Int32).toInt ≤ 3 := by rw [v_9273_e]; exact tr_add h_9262 (⟨by decide, by decide⟩ : 1 ≤ (Int32.ofInt 1 : Int32).toInt ∧ (Int32.ofInt 1 : Int32).toInt ≤ 1) (by decide) (by decide) (by decide) (by decide)
          have q_v_9273 : v_9273.toInt = x_9257.toInt + 1 := by rw [v_9273_e]; exact tr_addE h_9262 (⟨by decide, by decide⟩ : 1 ≤ (Int32.ofInt 1 : Int32).toInt ∧ (Int32.ofInt 1 : Int32).toInt ≤ 1) (by decide) (by decide)
          refine lv_iinc (v := v_9273) (lv' := [(3, .int v_9273), (2, .int v_9272), (0, .ref mm), (1, .int p0)]) hx hb dX12_onBits_47 hl (k := 1) rfl v_9273_e.symm (by decide) rfl (fun ls hl => ?_)
          refine lv_goto (tgt := 4) hx hb dX12_onBits_50 (by decide) ?_
          exact ih_9258 v_9272 v_9273 ls (tr_w h_v_9272 (by decide) (by decide)) (tr_w h_v_9273 (by decide) (by decide)) (on_add (t := r_9269) hr9258_0 h_x_9256 hw_9270 v_9271_e v_9272_e (by have z3 := tk_3; omega) hw_9270_p0 (by omega)) (by have z_0 := tk_0; have q9 := (hG.r.2.1 (p0 : Int32).toInt.toNat (by omega)).2.2.1; omega) (by omega) (lv_sub hl [0, 1, 2, 3] rfl)
        · skip
          have kk_0 := tk_0
          have c_9266_i := c_9266
          have c_9266_i : (r_9264 : Int32).toInt = (0 : Int32).toInt := congrArg Int32.toInt c_9266
          have hw_9265_p1_u := (hw_9265_p1).get (c_9266_i.trans tk_0)
          have c_9266_i := c_9266
          have c_9266_i : (r_9264 : Int32).toInt = (0 : Int32).toInt := congrArg Int32.toInt c_9266
          have h_9268 : 0 ≤ (r_9264 : Int32).toInt ∧ (r_9264 : Int32).toInt ≤ 0 := by have q1 := hw_9265; have q2 := (⟨by decide, by decide⟩ : 0 ≤ (0 : Int32).toInt ∧ (0 : Int32).toInt ≤ 0); omega
          refine lv_aload_n hx hb dX12_onBits_26 rfl (lv_at hl 2 rfl) ?_
          refine va_get (D := D) (ci := 12) (v := .ref m_choice) (C := RX12) (T := TX12) (N := 35) hx hb hts inlX12 hown hK hP 0 rfl rfl 20 (by decide) (hts (Cond.fieldLink RX12 40 "ChanceRingsModel" "choice" "[I") qw_125) (fun _ h9 => h9) rfl dX12_onBits_27 ?_
          refine lv_iload_n hx hb dX12_onBits_30 rfl (lv_at hl 3 rfl) ?_
          refine va_iald hx hb hK hP 2 0 rfl rfl (tr_in h_p0 (by decide) (by decide)) dX12_onBits_31 ?_
          refine lv_topi (fun v_9274 v_9274_e => ?_)
          have h_v_9274 : 0 ≤ (v_9274 : Int32).toInt ∧ (v_9274 : Int32).toInt ≤ 2 := by rw [v_9274_e]; exact h_chf _
          have g_v_9274 : v_9274 = chf (p0.toInt.toNat) := v_9274_e.trans (congrArg chf (by show Int.toNat _ = _; omega))
          have gi_v_9274 := congrArg Int32.toInt g_v_9274
          refine lv_iload_n hx hb dX12_onBits_32 rfl (lv_at hl 0 rfl) ?_
          refine lv_icmp_ne (tgt := 47) hx hb dX12_onBits_33 (by decide) (fun c_9275 => ?_) (fun c_9275 => ?_)
          · skip
            have c_9275_i := c_9275
            have c_9275_i : ¬ (v_9274 : Int32).toInt = (x_9257 : Int32).toInt := (fun q => c_9275 (Int32.toInt_inj.mp q))
            obtain ⟨v_9276, v_9276_e⟩ : ∃ y : Int32, y = x_9257 + Int32.ofInt 1 := ⟨_, rfl⟩
            have h_v_9276 : 1 ≤ (v_9276 : Int32).toInt ∧ (v_9276 : Int32).toInt ≤ 3 := by rw [v_9276_e]; exact tr_add h_9262 (⟨by decide, by decide⟩ : 1 ≤ (Int32.ofInt 1 : Int32).toInt ∧ (Int32.ofInt 1 : Int32).toInt ≤ 1) (by decide) (by decide) (by decide) (by decide)
            have q_v_9276 : v_9276.toInt = x_9257.toInt + 1 := by rw [v_9276_e]; exact tr_addE h_9262 (⟨by decide, by decide⟩ : 1 ≤ (Int32.ofInt 1 : Int32).toInt ∧ (Int32.ofInt 1 : Int32).toInt ≤ 1) (by decide) (by decide)
            refine lv_iinc (v := v_9276) (lv' := [(3, .int v_9276), (2, .int x_9256), (0, .ref mm), (1, .int p0)]) hx hb dX12_onBits_47 hl (k := 0) rfl v_9276_e.symm (by decide) rfl (fun ls hl => ?_)
            refine lv_goto (tgt := 4) hx hb dX12_onBits_50 (by decide) ?_
            exact ih_9258 x_9256 v_9276 ls (tr_w h_x_9256 (by decide) (by decide)) (tr_w h_v_9276 (by decide) (by decide)) (on_skip hr9258_0 (by have z3 := tk_3; omega) (by omega)) (by have z_0 := tk_0; have q9 := (hG.r.2.1 (p0 : Int32).toInt.toNat (by omega)).2.2.1; omega) (by omega) (lv_sub hl [0, 1, 2, 3] rfl)
          · skip
            have c_9275_i := c_9275
            have c_9275_i : (v_9274 : Int32).toInt = (x_9257 : Int32).toInt := congrArg Int32.toInt c_9275
            refine lv_iload_n hx hb dX12_onBits_36 rfl (lv_at hl 1 rfl) ?_
            refine lv_iconst (v := 1) hx hb dX12_onBits_37 (by decide) ?_
            refine lv_aload_n hx hb dX12_onBits_38 rfl (lv_at hl 2 rfl) ?_
            refine lv_iload_n hx hb dX12_onBits_39 rfl (lv_at hl 3 rfl) ?_
            refine lv_iload_n hx hb dX12_onBits_40 rfl (lv_at hl 0 rfl) ?_
            have hPc := hP.sub (ws' := [(mm, .inr (12, (.int i_thrown :: .ref m_s :: .ref m_spare :: .ref m_kept :: .ref m_undone :: .ref m_triedWay :: .ref m_isKept :: .int i_undoMany :: .ref m_tape :: .int i_length :: .int i_size :: .int i_p :: .int i_at :: .int i_token :: .int i_number :: .int i_letterMany :: .int i_fault :: .int i_faultAt :: .ref m_letters :: .int i_isKnown :: .ref m_choice :: .ref m_row :: .ref m_up :: .ref m_low :: .ref m_m :: .ref m_bestUp :: .ref m_bestLow :: .ref m_replyUp :: .ref m_replyLow :: .ref m_worthUp :: .ref m_worthLow :: .ref m_bestWay :: .int i_seed :: .ref m_told :: .int i_toldMany :: []))), (m_s, .inl (g 0, 193, .inl sf))]) [0, 1] rfl
            refine vp_callSi (va_Run.run (va_runV (As := [.int p0, .int x_9257]) (rest := [.int 1, .int x_9256]) ⟨hx, hb, hml, hown, hts⟩ (c_X12_to l D g mm p0 x_9257 i_thrown m_s m_spare m_kept m_undone m_triedWay m_isKept i_undoMany m_tape i_length i_size i_p i_at i_token i_number i_letterMany i_fault i_faultAt m_letters i_isKnown m_choice m_row m_up m_low m_m m_bestUp m_bestLow m_replyUp m_replyLow m_worthUp m_worthLow m_bestWay i_seed m_told i_toldMany sf (tr_w h_p0 (by decide) (by decide)) (tr_w h_9262 (by decide) (by decide)) (tr_w h_i_undoMany (by decide) (by decide)) (tr_w h_i_length (by decide) (by decide)) (tr_w h_i_size (by decide) (by decide)) (tr_w h_i_p (by decide) (by decide)) (tr_w h_i_at (by decide) (by decide)) (tr_w h_i_token (by decide) (by decide)) (tr_w h_i_number (by decide) (by decide)) (tr_w h_i_letterMany (by decide) (by decide)) (tr_w h_i_isKnown (by decide) (by decide)) (tr_w h_i_toldMany (by decide) (by decide)) hG) (cwV 2 hts (tz_gV qw_121 qw_122 qw_123 qw_3 qw_124) rfl rfl rfl (by decide +kernel) ⟨Nat.le_of_ble_eq_true rfl, Nat.le_of_ble_eq_true rfl⟩) ⟨tz_blS, va_recv hK hPc (ci := 12) (q0 := 0) rfl rfl, tz_preS hPc hK⟩ rfl rfl hl.1 rfl (lv_room (Nat.le_of_ble_eq_true rfl)) dX12_onBits_41 ⟨Nat.le_of_ble_eq_true rfl, Nat.le_of_ble_eq_true rfl⟩)) (fun r_9277 hw => ?_)
            have hw_9278 : 0 ≤ (r_9277 : Int32).toInt ∧ (r_9277 : Int32).toInt ≤ 11 := hw.1
            have hw_9278_p0 : (r_9277 : Int32) = sf (37 + 3 * (p0 : Int32).toInt.toNat + (x_9257 : Int32).toInt.toNat) := hw.2
            refine lv_ishl hx hb dX12_onBits_44 ?_
            refine lv_topi (fun v_9279 v_9279_e => ?_)
            have h_v_9279 : 0 ≤ (v_9279 : Int32).toInt ∧ (v_9279 : Int32).toInt ≤ 4095 := by rw [v_9279_e]; exact tr_shl12 (tr_w hw_9278 (by decide) (by decide))
            refine lv_ior hx hb dX12_onBits_45 ?_
            refine lv_topi (fun v_9280 v_9280_e => ?_)
            have h_v_9280 : 0 ≤ (v_9280 : Int32).toInt ∧ (v_9280 : Int32).toInt ≤ 4095 := by rw [v_9280_e]; exact (tr_or12 (tr_w h_x_9256 (by decide) (by decide)) (tr_w h_v_9279 (by decide) (by decide))).1
            have o_v_9280 : (x_9256 : Int32).toInt ≤ (v_9280 : Int32).toInt := by rw [v_9280_e]; exact (tr_or12 (tr_w h_x_9256 (by decide) (by decide)) (tr_w h_v_9279 (by decide) (by decide))).2
            refine lv_istore_n (lv' := [(2, .int v_9280), (3, .int x_9257), (0, .ref mm), (1, .int p0)]) hx hb dX12_onBits_46 rfl hl (by decide) rfl (fun ls hl => ?_)
            obtain ⟨v_9281, v_9281_e⟩ : ∃ y : Int32, y = x_9257 + Int32.ofInt 1 := ⟨_, rfl⟩
            have h_v_9281 : 1 ≤ (v_9281 : Int32).toInt ∧ (v_9281 : Int32).toInt ≤ 3 := by rw [v_9281_e]; exact tr_add h_9262 (⟨by decide, by decide⟩ : 1 ≤ (Int32.ofInt 1 : Int32).toInt ∧ (Int32.ofInt 1 : Int32).toInt ≤ 1) (by decide) (by decide) (by decide) (by decide)
            have q_v_9281 : v_9281.toInt = x_9257.toInt + 1 := by rw [v_9281_e]; exact tr_addE h_9262 (⟨by decide, by decide⟩ : 1 ≤ (Int32.ofInt 1 : Int32).toInt ∧ (Int32.ofInt 1 : Int32).toInt ≤ 1) (by decide) (by decide)
            refine lv_iinc (v := v_9281) (lv' := [(3, .int v_9281), (2, .int v_9280), (0, .ref mm), (1, .int p0)]) hx hb dX12_onBits_47 hl (k := 1) rfl v_9281_e.symm (by decide) rfl (fun ls hl => ?_)
            refine lv_goto (tgt := 4) hx hb dX12_onBits_50 (by decide) ?_
            exact ih_9258 v_9280 v_9281 ls (tr_w h_v_9280 (by decide) (by decide)) (tr_w h_v_9281 (by decide) (by decide)) (on_add (t := r_9277) hr9258_0 h_x_9256 hw_9278 v_9279_e v_9280_e (by have z3 := tk_3; omega) hw_9278_p0 (by omega)) (by have z_0 := tk_0; have q9 := (hG.r.2.1 (p0 : Int32).toInt.toNat (by omega)).2.2.1; omega) (by omega) (lv_sub hl [0, 1, 2, 3] rfl)
  exact lp_9258 4 0 0 ls (⟨by decide, by decide⟩ : 0 ≤ (0 : Int32).toInt ∧ (0 : Int32).toInt ≤ 4095) (⟨by decide, by decide⟩ : 0 ≤ (0 : Int32).toInt ∧ (0 : Int32).toInt ≤ 3) on_zero (by have z_0 := tk_0; have q9 := (hG.r.2.1 (p0 : Int32).toInt.toNat (by omega)).2.2.1; omega) (by decide) (lv_sub hl [0, 1, 2, 3] rfl)
set_option maxHeartbeats 4000000 in
set_option maxRecDepth 100000 in
theorem c_X12_ends (l : Launch) (D : va_G) (g : Nat → ClassId) (mm : Nat) (i_thrown : Int32) (m_s : Nat) (m_spare : Nat) (m_kept : Nat) (m_undone : Nat) (m_triedWay : Nat) (m_isKept : Nat) (i_undoMany : Int32) (m_tape : Nat) (i_length : Int32) (i_size : Int32) (i_p : Int32) (i_at : Int32) (i_token : Int32) (i_number : Int32) (i_letterMany : Int32) (i_fault : Int32) (i_faultAt : Int32) (m_letters : Nat) (i_isKnown : Int32) (m_choice : Nat) (m_row : Nat) (m_up : Nat) (m_low : Nat) (m_m : Nat) (m_bestUp : Nat) (m_bestLow : Nat) (m_replyUp : Nat) (m_replyLow : Nat) (m_worthUp : Nat) (m_worthLow : Nat) (m_bestWay : Nat) (i_seed : Int32) (m_told : Nat) (i_toldMany : Int32) (sf : Nat → Int32) (h_i_undoMany : 0 ≤ (i_undoMany : Int32).toInt ∧ (i_undoMany : Int32).toInt ≤ 8) (h_i_length : 0 ≤ (i_length : Int32).toInt ∧ (i_length : Int32).toInt ≤ 440) (h_i_size : 0 ≤ (i_size : Int32).toInt ∧ (i_size : Int32).toInt ≤ 440) (h_i_p : 0 ≤ (i_p : Int32).toInt ∧ (i_p : Int32).toInt ≤ 440) (h_i_at : 0 ≤ (i_at : Int32).toInt ∧ (i_at : Int32).toInt ≤ 440) (h_i_token : 0 ≤ (i_token : Int32).toInt ∧ (i_token : Int32).toInt ≤ 4) (h_i_number : 0 ≤ (i_number : Int32).toInt ∧ (i_number : Int32).toInt ≤ 814) (h_i_letterMany : (-440) ≤ (i_letterMany : Int32).toInt ∧ (i_letterMany : Int32).toInt ≤ 440) (h_i_isKnown : 0 ≤ (i_isKnown : Int32).toInt ∧ (i_isKnown : Int32).toInt ≤ 1) (h_i_toldMany : 0 ≤ (i_toldMany : Int32).toInt ∧ (i_toldMany : Int32).toInt ≤ 900) (hG : GS sf) : Met l yX12_ends (.code yX12_ends cX12_ends 3 (some .int) :: wsL_law) ({ frames := 1, cells := 0, slots := 0, locals := 22 }) (va_Pc [.ref mm] (fun U => va_P D vwCl [(mm, .inr (12, (.int i_thrown :: .ref m_s :: .ref m_spare :: .ref m_kept :: .ref m_undone :: .ref m_triedWay :: .ref m_isKept :: .int i_undoMany :: .ref m_tape :: .int i_length :: .int i_size :: .int i_p :: .int i_at :: .int i_token :: .int i_number :: .int i_letterMany :: .int i_fault :: .int i_faultAt :: .ref m_letters :: .int i_isKnown :: .ref m_choice :: .ref m_row :: .ref m_up :: .ref m_low :: .ref m_m :: .ref m_bestUp :: .ref m_bestLow :: .ref m_replyUp :: .ref m_replyLow :: .ref m_worthUp :: .ref m_worthLow :: .ref m_bestWay :: .int i_seed :: .ref m_told :: .int i_toldMany :: []))), (m_s, .inl (g 0, 193, .inl sf))] U.heap ∧ va_K D vwCl (TY g) U)) (vp_Si (fun r => (0 ≤ (r : Int32).toInt ∧ (r : Int32).toInt ≤ 4095) ∧ (∀ j : Nat, bt r j ↔ (j < (sf 0).toInt.toNat ∧ (sf (1 + j)).toInt = 0)))) 0 0 (fun _ => False) := by
  refine Met.ofW (cc := cX12_ends) (maxL := 3) (ret := (some .int)) (by decide) rfl ?_
  intro p e s m args below meth c s₁ B hml hv
  obtain ⟨ha, hP, hK⟩ := hv
  have hx := B.exec
  have hb := B.bytes
  have hr := B.returns
  have hts0 := atoms_spec (ws := (.code yX12_ends cX12_ends 3 (some .int) :: wsL_law)) B.pre
  have hts : ∀ w ∈ wsL_law, w.before args s = true := fun w h => hts0 w (List.mem_cons_of_mem _ h)
  have hown : s.vm.findClass RX12 = some m.cls := findClass_of_methodNamed B.named
  have hlocks := B.notSynchronized
  have hP : va_P D vwCl [(mm, .inr (12, (.int i_thrown :: .ref m_s :: .ref m_spare :: .ref m_kept :: .ref m_undone :: .ref m_triedWay :: .ref m_isKept :: .int i_undoMany :: .ref m_tape :: .int i_length :: .int i_size :: .int i_p :: .int i_at :: .int i_token :: .int i_number :: .int i_letterMany :: .int i_fault :: .int i_faultAt :: .ref m_letters :: .int i_isKnown :: .ref m_choice :: .ref m_row :: .ref m_up :: .ref m_low :: .ref m_m :: .ref m_bestUp :: .ref m_bestLow :: .ref m_replyUp :: .ref m_replyLow :: .ref m_worthUp :: .ref m_worthLow :: .ref m_bestWay :: .int i_seed :: .ref m_told :: .int i_toldMany :: []))), (m_s, .inl (g 0, 193, .inl sf))] s.heap := hP
  refine W.eq (g2 := entryFrame m ([.ref mm] : List Value).toArray 3) (by rw [ha]) ?_
  have hl := lv_entry ([.ref mm]) (n := 3) (Nat.le_of_ble_eq_true rfl)
  rw [lg_entry_eq]
  generalize (lg_sl ([.ref mm]) ++ List.replicate (3 - (lg_sl ([.ref mm])).length) Slot.unset).toArray = ls at hl ⊢
  have hl : lv_has ls 3 [(0, .ref mm)] := hl
  have gn9 := hG.r.1
  refine lv_iconst (v := 0) hx hb dX12_ends_0 (by decide) ?_
  refine lv_istore_n (lv' := [(1, .int 0), (0, .ref mm)]) hx hb dX12_ends_1 rfl hl (by decide) rfl (fun ls hl => ?_)
  refine lv_iconst (v := 0) hx hb dX12_ends_2 (by decide) ?_
  refine lv_istore_n (lv' := [(2, .int 0), (1, .int 0), (0, .ref mm)]) hx hb dX12_ends_3 rfl hl (by decide) rfl (fun ls hl => ?_)
  have lp_9300 : ∀ (n_9300 : Nat) (x_9298 : Int32) (x_9299 : Int32) (ls : Array Slot), (0 ≤ (x_9298 : Int32).toInt ∧ (x_9298 : Int32).toInt ≤ 4095) → (0 ≤ (x_9299 : Int32).toInt ∧ (x_9299 : Int32).toInt ≤ 12) → (∀ j : Nat, bt x_9298 j ↔ (j < x_9299.toInt.toNat ∧ (sf (1 + j)).toInt = 0)) → (x_9299.toInt ≤ (sf 0).toInt) → (12 - x_9299.toInt < (n_9300 : Int)) → lv_has ls 3 [(2, .int x_9299), (1, .int x_9298), (0, .ref mm)] → W p l e (headSpec (.code yX12_ends cX12_ends 3 (some .int) :: wsL_law) ({ frames := 1, cells := 0, slots := 0, locals := 22 })).room s m args below meth c s.heap [] 0 0 (MQ below (vp_Si (fun r => (0 ≤ (r : Int32).toInt ∧ (r : Int32).toInt ≤ 4095) ∧ (∀ j : Nat, bt r j ↔ (j < (sf 0).toInt.toNat ∧ (sf (1 + j)).toInt = 0)))) args s 0 0 (fun _ => False)) (F0 m 4 ls []) := by
    intro n_9300
    induction n_9300 with
    | zero =>
      intro x_9298 x_9299 ls h_x_9298 h_x_9299 hr9300_0 hr9300_1 hm_9300 hl
      exfalso; omega
    | succ n_9300 ih_9300 =>
      intro x_9298 x_9299 ls h_x_9298 h_x_9299 hr9300_0 hr9300_1 hm_9300 hl
      refine lv_iload_n hx hb dX12_ends_4 rfl (lv_at hl 0 rfl) ?_
      refine lv_aload_n hx hb dX12_ends_5 rfl (lv_at hl 2 rfl) ?_
      refine va_get (D := D) (ci := 12) (v := .ref m_s) (C := RX12) (T := TX12) (N := 35) hx hb hts inlX12 hown hK hP 0 rfl rfl 1 (by decide) (hts (Cond.fieldLink RX12 13 "ChanceRingsModel" "s" "[I") qw_73) (fun _ h9 => h9) rfl dX12_ends_6 ?_
      refine lv_iconst (v := 0) hx hb dX12_ends_9 (by decide) ?_
      refine va_iald hx hb hK hP 1 0 rfl rfl (tz_in (by decide +kernel)) dX12_ends_10 ?_
      refine lv_topi (fun v_9301 v_9301_e => ?_)
      have h_v_9301 : 0 ≤ (v_9301 : Int32).toInt ∧ (v_9301 : Int32).toInt ≤ 12 := by rw [v_9301_e]; exact gr_nodes hG.r (⟨by decide, by decide⟩ : 0 ≤ (0 : Int32).toInt ∧ (0 : Int32).toInt ≤ 0)
      have g_v_9301 : v_9301 = sf (0) := v_9301_e.trans (congrArg sf rfl)
      have gi_v_9301 := congrArg Int32.toInt g_v_9301
      refine lv_icmp_ge (tgt := 39) hx hb dX12_ends_11 (by decide) (fun c_9302 => ?_) (fun c_9302 => ?_)
      · skip
        have c_9302_i := Int32.le_iff_toInt_le.mp c_9302
        refine lv_iload_n hx hb dX12_ends_39 rfl (lv_at hl 1 rfl) ?_
        exact W.iret (v := x_9298) hx hb hr (fun t ht hW => ⟨x_9298, rfl, ⟨(tr_w h_x_9298 (by decide) (by decide)), (fun j => by rw [hr9300_0 j, show x_9299.toInt.toNat = (sf 0).toInt.toNat by omega])⟩, ht⟩) (fun _ h => nomatch h) dX12_ends_40
      · skip
        have c_9302_i := Int32.lt_iff_toInt_lt.mp (Int32.not_le.mp c_9302)
        have c_9302_i := Int32.lt_iff_toInt_lt.mp (Int32.not_le.mp c_9302)
        have h_9303 : 0 ≤ (x_9299 : Int32).toInt ∧ (x_9299 : Int32).toInt ≤ 11 := by have q1 := h_x_9299; have q2 := h_v_9301; omega
        have h_9304 : 1 ≤ (v_9301 : Int32).toInt ∧ (v_9301 : Int32).toInt ≤ 12 := by have q1 := h_x_9299; have q2 := h_v_9301; omega
        refine lv_iload_n hx hb dX12_ends_14 rfl (lv_at hl 1 rfl) ?_
        refine lv_aload_n hx hb dX12_ends_15 rfl (lv_at hl 2 rfl) ?_
        refine lv_iload_n hx hb dX12_ends_16 rfl (lv_at hl 0 rfl) ?_
        refine lv_iconst (v := 0) hx hb dX12_ends_17 (by decide) ?_
        have hPc := hP.sub (ws' := [(mm, .inr (12, (.int i_thrown :: .ref m_s :: .ref m_spare :: .ref m_kept :: .ref m_undone :: .ref m_triedWay :: .ref m_isKept :: .int i_undoMany :: .ref m_tape :: .int i_length :: .int i_size :: .int i_p :: .int i_at :: .int i_token :: .int i_number :: .int i_letterMany :: .int i_fault :: .int i_faultAt :: .ref m_letters :: .int i_isKnown :: .ref m_choice :: .ref m_row :: .ref m_up :: .ref m_low :: .ref m_m :: .ref m_bestUp :: .ref m_bestLow :: .ref m_replyUp :: .ref m_replyLow :: .ref m_worthUp :: .ref m_worthLow :: .ref m_bestWay :: .int i_seed :: .ref m_told :: .int i_toldMany :: []))), (m_s, .inl (g 0, 193, .inl sf))]) [0, 1] rfl
        refine vp_callSi (va_Run.run (va_runV (As := [.int x_9299, .int 0]) (rest := [.int x_9298]) ⟨hx, hb, hml, hown, hts⟩ (c_X12_isKind l D g mm x_9299 0 i_thrown m_s m_spare m_kept m_undone m_triedWay m_isKept i_undoMany m_tape i_length i_size i_p i_at i_token i_number i_letterMany i_fault i_faultAt m_letters i_isKnown m_choice m_row m_up m_low m_m m_bestUp m_bestLow m_replyUp m_replyLow m_worthUp m_worthLow m_bestWay i_seed m_told i_toldMany sf (tr_w h_9303 (by decide) (by decide)) (tr_w h_i_undoMany (by decide) (by decide)) (tr_w h_i_length (by decide) (by decide)) (tr_w h_i_size (by decide) (by decide)) (tr_w h_i_p (by decide) (by decide)) (tr_w h_i_at (by decide) (by decide)) (tr_w h_i_token (by decide) (by decide)) (tr_w h_i_number (by decide) (by decide)) (tr_w h_i_letterMany (by decide) (by decide)) (tr_w h_i_isKnown (by decide) (by decide)) (tr_w h_i_toldMany (by decide) (by decide)) hG) (cwV 2 hts (tz_gV qw_94 qw_95 qw_96 qw_3 qw_97) rfl rfl rfl (by decide +kernel) ⟨Nat.le_of_ble_eq_true rfl, Nat.le_of_ble_eq_true rfl⟩) ⟨tz_blS, va_recv hK hPc (ci := 12) (q0 := 0) rfl rfl, tz_preS hPc hK⟩ rfl rfl hl.1 rfl (lv_room (Nat.le_of_ble_eq_true rfl)) dX12_ends_18 ⟨Nat.le_of_ble_eq_true rfl, Nat.le_of_ble_eq_true rfl⟩)) (fun r_9305 hw => ?_)
        have kk_0 := tk_0
        have hw_9306 : 0 ≤ (r_9305 : Int32).toInt ∧ (r_9305 : Int32).toInt ≤ 1 := hw.1
        have hw_9306_p0 : Hide (¬ (r_9305 : Int32).toInt = 0 → (sf (1 + (x_9299 : Int32).toInt.toNat)).toInt = (0 : Int32).toInt) := hw.2.1
        have hw_9306_p1 : Hide ((r_9305 : Int32).toInt = 0 → ¬ (sf (1 + (x_9299 : Int32).toInt.toNat)).toInt = (0 : Int32).toInt) := hw.2.2
        refine lv_if_eq (tgt := 30) hx hb dX12_ends_21 (by decide) (fun c_9307 => ?_) (fun c_9307 => ?_)
        · skip
          have c_9307_i := c_9307
          have c_9307_i : (r_9305 : Int32).toInt = (0 : Int32).toInt := congrArg Int32.toInt c_9307
          have hw_9306_p1_u := (hw_9306_p1).get (c_9307_i.trans tk_0)
          have c_9307_i := c_9307
          have c_9307_i : (r_9305 : Int32).toInt = (0 : Int32).toInt := congrArg Int32.toInt c_9307
          have h_9308 : 0 ≤ (r_9305 : Int32).toInt ∧ (r_9305 : Int32).toInt ≤ 0 := by have q1 := hw_9306; have q2 := (⟨by decide, by decide⟩ : 0 ≤ (0 : Int32).toInt ∧ (0 : Int32).toInt ≤ 0); omega
          refine lv_iconst (v := 0) hx hb dX12_ends_30 (by decide) ?_
          refine lv_ior hx hb dX12_ends_31 ?_
          refine lv_topi (fun v_9310 v_9310_e => ?_)
          have h_v_9310 : 0 ≤ (v_9310 : Int32).toInt ∧ (v_9310 : Int32).toInt ≤ 4095 := by rw [v_9310_e]; exact (tr_or12 (tr_w h_x_9298 (by decide) (by decide)) (⟨by decide, by decide⟩ : 0 ≤ (0 : Int32).toInt ∧ (0 : Int32).toInt ≤ 4095)).1
          have o_v_9310 : (x_9298 : Int32).toInt ≤ (v_9310 : Int32).toInt := by rw [v_9310_e]; exact (tr_or12 (tr_w h_x_9298 (by decide) (by decide)) (⟨by decide, by decide⟩ : 0 ≤ (0 : Int32).toInt ∧ (0 : Int32).toInt ≤ 4095)).2
          refine lv_istore_n (lv' := [(1, .int v_9310), (2, .int x_9299), (0, .ref mm)]) hx hb dX12_ends_32 rfl hl (by decide) rfl (fun ls hl => ?_)
          obtain ⟨v_9311, v_9311_e⟩ : ∃ y : Int32, y = x_9299 + Int32.ofInt 1 := ⟨_, rfl⟩
          have h_v_9311 : 1 ≤ (v_9311 : Int32).toInt ∧ (v_9311 : Int32).toInt ≤ 12 := by rw [v_9311_e]; exact tr_add h_9303 (⟨by decide, by decide⟩ : 1 ≤ (Int32.ofInt 1 : Int32).toInt ∧ (Int32.ofInt 1 : Int32).toInt ≤ 1) (by decide) (by decide) (by decide) (by decide)
          have q_v_9311 : v_9311.toInt = x_9299.toInt + 1 := by rw [v_9311_e]; exact tr_addE h_9303 (⟨by decide, by decide⟩ : 1 ≤ (Int32.ofInt 1 : Int32).toInt ∧ (Int32.ofInt 1 : Int32).toInt ≤ 1) (by decide) (by decide)
          refine lv_iinc (v := v_9311) (lv' := [(2, .int v_9311), (1, .int v_9310), (0, .ref mm)]) hx hb dX12_ends_33 hl (k := 1) rfl v_9311_e.symm (by decide) rfl (fun ls hl => ?_)
          refine lv_goto (tgt := 4) hx hb dX12_ends_36 (by decide) ?_
          exact ih_9300 v_9310 v_9311 ls (tr_w h_v_9310 (by decide) (by decide)) (tr_w h_v_9311 (by decide) (by decide)) (en_skip hr9300_0 v_9310_e (by have z_0 := tk_0; omega) (by omega)) (by have z_0 := tk_0; omega) (by omega) (lv_sub hl [0, 1, 2] rfl)
        · skip
          have c_9307_i := c_9307
          have c_9307_i : ¬ (r_9305 : Int32).toInt = (0 : Int32).toInt := (fun q => c_9307 (Int32.toInt_inj.mp q))
          have hw_9306_p0_u := (hw_9306_p0).get (fun q => c_9307_i (q.trans tk_0.symm))
          have c_9307_i := c_9307
          have c_9307_i : ¬ (r_9305 : Int32).toInt = (0 : Int32).toInt := (fun q => c_9307 (Int32.toInt_inj.mp q))
          have h_9309 : 1 ≤ (r_9305 : Int32).toInt ∧ (r_9305 : Int32).toInt ≤ 1 := by have q1 := hw_9306; have q2 := (⟨by decide, by decide⟩ : 0 ≤ (0 : Int32).toInt ∧ (0 : Int32).toInt ≤ 0); omega
          refine lv_iconst (v := 1) hx hb dX12_ends_24 (by decide) ?_
          refine lv_iload_n hx hb dX12_ends_25 rfl (lv_at hl 0 rfl) ?_
          refine lv_ishl hx hb dX12_ends_26 ?_
          refine lv_topi (fun v_9312 v_9312_e => ?_)
          have h_v_9312 : 0 ≤ (v_9312 : Int32).toInt ∧ (v_9312 : Int32).toInt ≤ 4095 := by rw [v_9312_e]; exact tr_shl12 (tr_w h_9303 (by decide) (by decide))
          refine lv_goto (tgt := 31) hx hb dX12_ends_27 (by decide) ?_
          refine lv_ior hx hb dX12_ends_31 ?_
          refine lv_topi (fun v_9313 v_9313_e => ?_)
          have h_v_9313 : 0 ≤ (v_9313 : Int32).toInt ∧ (v_9313 : Int32).toInt ≤ 4095 := by rw [v_9313_e]; exact (tr_or12 (tr_w h_x_9298 (by decide) (by decide)) (tr_w h_v_9312 (by decide) (by decide))).1
          have o_v_9313 : (x_9298 : Int32).toInt ≤ (v_9313 : Int32).toInt := by rw [v_9313_e]; exact (tr_or12 (tr_w h_x_9298 (by decide) (by decide)) (tr_w h_v_9312 (by decide) (by decide))).2
          refine lv_istore_n (lv' := [(1, .int v_9313), (2, .int x_9299), (0, .ref mm)]) hx hb dX12_ends_32 rfl hl (by decide) rfl (fun ls hl => ?_)
          obtain ⟨v_9314, v_9314_e⟩ : ∃ y : Int32, y = x_9299 + Int32.ofInt 1 := ⟨_, rfl⟩
          have h_v_9314 : 1 ≤ (v_9314 : Int32).toInt ∧ (v_9314 : Int32).toInt ≤ 12 := by rw [v_9314_e]; exact tr_add h_9303 (⟨by decide, by decide⟩ : 1 ≤ (Int32.ofInt 1 : Int32).toInt ∧ (Int32.ofInt 1 : Int32).toInt ≤ 1) (by decide) (by decide) (by decide) (by decide)
          have q_v_9314 : v_9314.toInt = x_9299.toInt + 1 := by rw [v_9314_e]; exact tr_addE h_9303 (⟨by decide, by decide⟩ : 1 ≤ (Int32.ofInt 1 : Int32).toInt ∧ (Int32.ofInt 1 : Int32).toInt ≤ 1) (by decide) (by decide)
          refine lv_iinc (v := v_9314) (lv' := [(2, .int v_9314), (1, .int v_9313), (0, .ref mm)]) hx hb dX12_ends_33 hl (k := 1) rfl v_9314_e.symm (by decide) rfl (fun ls hl => ?_)
          refine lv_goto (tgt := 4) hx hb dX12_ends_36 (by decide) ?_
          exact ih_9300 v_9313 v_9314 ls (tr_w h_v_9313 (by decide) (by decide)) (tr_w h_v_9314 (by decide) (by decide)) (en_add (t := x_9299) hr9300_0 h_x_9298 h_9303 v_9312_e v_9313_e (by omega) (by have z_0 := tk_0; omega) (by omega)) (by have z_0 := tk_0; omega) (by omega) (lv_sub hl [0, 1, 2] rfl)
  exact lp_9300 13 0 0 ls (⟨by decide, by decide⟩ : 0 ≤ (0 : Int32).toInt ∧ (0 : Int32).toInt ≤ 4095) (⟨by decide, by decide⟩ : 0 ≤ (0 : Int32).toInt ∧ (0 : Int32).toInt ≤ 12) en_zero (by have z_0 := tk_0; omega) (by decide) (lv_sub hl [0, 1, 2] rfl)
set_option maxHeartbeats 4000000 in
set_option maxRecDepth 100000 in
theorem c_X12_comes (l : Launch) (D : va_G) (g : Nat → ClassId) (mm : Nat) (p0 : Int32) (i_thrown : Int32) (m_s : Nat) (m_spare : Nat) (m_kept : Nat) (m_undone : Nat) (m_triedWay : Nat) (m_isKept : Nat) (i_undoMany : Int32) (m_tape : Nat) (i_length : Int32) (i_size : Int32) (i_p : Int32) (i_at : Int32) (i_token : Int32) (i_number : Int32) (i_letterMany : Int32) (i_fault : Int32) (i_faultAt : Int32) (m_letters : Nat) (i_isKnown : Int32) (m_choice : Nat) (m_row : Nat) (m_up : Nat) (m_low : Nat) (m_m : Nat) (m_bestUp : Nat) (m_bestLow : Nat) (m_replyUp : Nat) (m_replyLow : Nat) (m_worthUp : Nat) (m_worthLow : Nat) (m_bestWay : Nat) (i_seed : Int32) (m_told : Nat) (i_toldMany : Int32) (sf : Nat → Int32) (chf : Nat → Int32) (h_p0 : 0 ≤ (p0 : Int32).toInt ∧ (p0 : Int32).toInt ≤ 4095) (h_i_undoMany : 0 ≤ (i_undoMany : Int32).toInt ∧ (i_undoMany : Int32).toInt ≤ 8) (h_i_length : 0 ≤ (i_length : Int32).toInt ∧ (i_length : Int32).toInt ≤ 440) (h_i_size : 0 ≤ (i_size : Int32).toInt ∧ (i_size : Int32).toInt ≤ 440) (h_i_p : 0 ≤ (i_p : Int32).toInt ∧ (i_p : Int32).toInt ≤ 440) (h_i_at : 0 ≤ (i_at : Int32).toInt ∧ (i_at : Int32).toInt ≤ 440) (h_i_token : 0 ≤ (i_token : Int32).toInt ∧ (i_token : Int32).toInt ≤ 4) (h_i_number : 0 ≤ (i_number : Int32).toInt ∧ (i_number : Int32).toInt ≤ 814) (h_i_letterMany : (-440) ≤ (i_letterMany : Int32).toInt ∧ (i_letterMany : Int32).toInt ≤ 440) (h_i_isKnown : 0 ≤ (i_isKnown : Int32).toInt ∧ (i_isKnown : Int32).toInt ≤ 1) (h_i_toldMany : 0 ≤ (i_toldMany : Int32).toInt ∧ (i_toldMany : Int32).toInt ≤ 900) (h_chf : ∀ j : Nat, 0 ≤ (chf j).toInt ∧ (chf j).toInt ≤ 2) (hG : GS sf) : Met l yX12_comes (.code yX12_comes cX12_comes 5 (some .int) :: wsL_law) ({ frames := 2, cells := 0, slots := 0, locals := 45 }) (va_Pc [.ref mm, .int p0] (fun U => va_P D vwCl [(mm, .inr (12, (.int i_thrown :: .ref m_s :: .ref m_spare :: .ref m_kept :: .ref m_undone :: .ref m_triedWay :: .ref m_isKept :: .int i_undoMany :: .ref m_tape :: .int i_length :: .int i_size :: .int i_p :: .int i_at :: .int i_token :: .int i_number :: .int i_letterMany :: .int i_fault :: .int i_faultAt :: .ref m_letters :: .int i_isKnown :: .ref m_choice :: .ref m_row :: .ref m_up :: .ref m_low :: .ref m_m :: .ref m_bestUp :: .ref m_bestLow :: .ref m_replyUp :: .ref m_replyLow :: .ref m_worthUp :: .ref m_worthLow :: .ref m_bestWay :: .int i_seed :: .ref m_told :: .int i_toldMany :: []))), (m_s, .inl (g 0, 193, .inl sf)), (m_choice, .inl (g 0, 12, .inl chf))] U.heap ∧ va_K D vwCl (TY g) U)) (vp_Si (fun r => (0 ≤ (r : Int32).toInt ∧ (r : Int32).toInt ≤ 4095) ∧ (LF sf chf p0 r ∧ CL sf chf (bt r)))) 0 0 (fun _ => False) := by
  refine Met.ofW (cc := cX12_comes) (maxL := 5) (ret := (some .int)) (by decide) rfl ?_
  intro p e s m args below meth c s₁ B hml hv
  obtain ⟨ha, hP, hK⟩ := hv
  have hx := B.exec
  have hb := B.bytes
  have hr := B.returns
  have hts0 := atoms_spec (ws := (.code yX12_comes cX12_comes 5 (some .int) :: wsL_law)) B.pre
  have hts : ∀ w ∈ wsL_law, w.before args s = true := fun w h => hts0 w (List.mem_cons_of_mem _ h)
  have hown : s.vm.findClass RX12 = some m.cls := findClass_of_methodNamed B.named
  have hlocks := B.notSynchronized
  have hP : va_P D vwCl [(mm, .inr (12, (.int i_thrown :: .ref m_s :: .ref m_spare :: .ref m_kept :: .ref m_undone :: .ref m_triedWay :: .ref m_isKept :: .int i_undoMany :: .ref m_tape :: .int i_length :: .int i_size :: .int i_p :: .int i_at :: .int i_token :: .int i_number :: .int i_letterMany :: .int i_fault :: .int i_faultAt :: .ref m_letters :: .int i_isKnown :: .ref m_choice :: .ref m_row :: .ref m_up :: .ref m_low :: .ref m_m :: .ref m_bestUp :: .ref m_bestLow :: .ref m_replyUp :: .ref m_replyLow :: .ref m_worthUp :: .ref m_worthLow :: .ref m_bestWay :: .int i_seed :: .ref m_told :: .int i_toldMany :: []))), (m_s, .inl (g 0, 193, .inl sf)), (m_choice, .inl (g 0, 12, .inl chf))] s.heap := hP
  refine W.eq (g2 := entryFrame m ([.ref mm, .int p0] : List Value).toArray 5) (by rw [ha]) ?_
  have hl := lv_entry ([.ref mm, .int p0]) (n := 5) (Nat.le_of_ble_eq_true rfl)
  rw [lg_entry_eq]
  generalize (lg_sl ([.ref mm, .int p0]) ++ List.replicate (5 - (lg_sl ([.ref mm, .int p0])).length) Slot.unset).toArray = ls at hl ⊢
  have hl : lv_has ls 5 [(0, .ref mm), (1, .int p0)] := hl
  have gn9 := hG.r.1
  refine lv_iload_n hx hb dX12_comes_0 rfl (lv_at hl 1 rfl) ?_
  refine lv_istore_n (lv' := [(2, .int p0), (0, .ref mm), (1, .int p0)]) hx hb dX12_comes_1 rfl hl (by decide) rfl (fun ls hl => ?_)
  refine lv_iconst (v := 0) hx hb dX12_comes_2 (by decide) ?_
  refine lv_istore_n (lv' := [(3, .int 0), (2, .int p0), (0, .ref mm), (1, .int p0)]) hx hb dX12_comes_3 rfl hl (by decide) rfl (fun ls hl => ?_)
  have lp_9362 : ∀ (n_9362 : Nat) (x_9360 : Int32) (x_9361 : Int32) (ls : Array Slot), (0 ≤ (x_9360 : Int32).toInt ∧ (x_9360 : Int32).toInt ≤ 4095) → (0 ≤ (x_9361 : Int32).toInt ∧ (x_9361 : Int32).toInt ≤ 4095) → (LF sf chf p0 x_9360) → ((x_9361 : Int32) = x_9360 → CL sf chf (bt x_9360)) → (x_9361.toInt ≤ x_9360.toInt) → (4095 - x_9361.toInt < (n_9362 : Int)) → lv_has ls 5 [(3, .int x_9361), (2, .int x_9360), (0, .ref mm), (1, .int p0)] → W p l e (headSpec (.code yX12_comes cX12_comes 5 (some .int) :: wsL_law) ({ frames := 2, cells := 0, slots := 0, locals := 45 })).room s m args below meth c s.heap [] 0 0 (MQ below (vp_Si (fun r => (0 ≤ (r : Int32).toInt ∧ (r : Int32).toInt ≤ 4095) ∧ (LF sf chf p0 r ∧ CL sf chf (bt r)))) args s 0 0 (fun _ => False)) (F0 m 4 ls []) := by
    intro n_9362
    induction n_9362 with
    | zero =>
      intro x_9360 x_9361 ls h_x_9360 h_x_9361 hr9362_0 hr9362_1 hr9362_2 hm_9362 hl
      exfalso; omega
    | succ n_9362 ih_9362 =>
      intro x_9360 x_9361 ls h_x_9360 h_x_9361 hr9362_0 hr9362_1 hr9362_2 hm_9362 hl
      refine lv_iload_n hx hb dX12_comes_4 rfl (lv_at hl 0 rfl) ?_
      refine lv_iload_n hx hb dX12_comes_5 rfl (lv_at hl 1 rfl) ?_
      refine lv_icmp_eq (tgt := 62) hx hb dX12_comes_6 (by decide) (fun c_9363 => ?_) (fun c_9363 => ?_)
      · skip
        have c_9363_i := c_9363
        have c_9363_i : (x_9361 : Int32).toInt = (x_9360 : Int32).toInt := congrArg Int32.toInt c_9363
        refine lv_iload_n hx hb dX12_comes_62 rfl (lv_at hl 1 rfl) ?_
        exact W.iret (v := x_9360) hx hb hr (fun t ht hW => ⟨x_9360, rfl, ⟨(tr_w h_x_9360 (by decide) (by decide)), ⟨hr9362_0, hr9362_1 c_9363⟩⟩, ht⟩) (fun _ h => nomatch h) dX12_comes_63
      · skip
        have c_9363_i := c_9363
        have c_9363_i : ¬ (x_9361 : Int32).toInt = (x_9360 : Int32).toInt := (fun q => c_9363 (Int32.toInt_inj.mp q))
        refine lv_iload_n hx hb dX12_comes_9 rfl (lv_at hl 1 rfl) ?_
        refine lv_istore_n (lv' := [(3, .int x_9360), (2, .int x_9360), (0, .ref mm), (1, .int p0)]) hx hb dX12_comes_10 rfl hl (by decide) rfl (fun ls hl => ?_)
        refine lv_iconst (v := 0) hx hb dX12_comes_11 (by decide) ?_
        refine lv_istore (lv' := [(4, .int 0), (3, .int x_9360), (2, .int x_9360), (0, .ref mm), (1, .int p0)]) hx hb dX12_comes_12 hl (by decide) rfl (fun ls hl => ?_)
        have lp_9387 : ∀ (n_9387 : Nat) (x_9385 : Int32) (x_9386 : Int32) (ls : Array Slot), (0 ≤ (x_9385 : Int32).toInt ∧ (x_9385 : Int32).toInt ≤ 4095) → (0 ≤ (x_9386 : Int32).toInt ∧ (x_9386 : Int32).toInt ≤ 12) → (LF sf chf p0 x_9385) → (x_9385 = x_9360 → CLm sf chf x_9386.toInt.toNat (bt x_9360)) → (x_9360.toInt ≤ x_9385.toInt) → (x_9386.toInt ≤ (sf 0).toInt) → (12 - x_9386.toInt < (n_9387 : Int)) → lv_has ls 5 [(4, .int x_9386), (3, .int x_9360), (2, .int x_9385), (0, .ref mm), (1, .int p0)] → W p l e (headSpec (.code yX12_comes cX12_comes 5 (some .int) :: wsL_law) ({ frames := 2, cells := 0, slots := 0, locals := 45 })).room s m args below meth c s.heap [] 0 0 (MQ below (vp_Si (fun r => (0 ≤ (r : Int32).toInt ∧ (r : Int32).toInt ≤ 4095) ∧ (LF sf chf p0 r ∧ CL sf chf (bt r)))) args s 0 0 (fun _ => False)) (F0 m 14 ls []) := by
          intro n_9387
          induction n_9387 with
          | zero =>
            intro x_9385 x_9386 ls h_x_9385 h_x_9386 hr9387_0 hr9387_1 hr9387_2 hr9387_3 hm_9387 hl
            exfalso; omega
          | succ n_9387 ih_9387 =>
            intro x_9385 x_9386 ls h_x_9385 h_x_9386 hr9387_0 hr9387_1 hr9387_2 hr9387_3 hm_9387 hl
            refine lv_iload hx hb dX12_comes_14 (lv_at hl 0 rfl) ?_
            refine lv_aload_n hx hb dX12_comes_16 rfl (lv_at hl 3 rfl) ?_
            refine va_get (D := D) (ci := 12) (v := .ref m_s) (C := RX12) (T := TX12) (N := 35) hx hb hts inlX12 hown hK hP 0 rfl rfl 1 (by decide) (hts (Cond.fieldLink RX12 13 "ChanceRingsModel" "s" "[I") qw_73) (fun _ h9 => h9) rfl dX12_comes_17 ?_
            refine lv_iconst (v := 0) hx hb dX12_comes_20 (by decide) ?_
            refine va_iald hx hb hK hP 1 0 rfl rfl (tz_in (by decide +kernel)) dX12_comes_21 ?_
            refine lv_topi (fun v_9388 v_9388_e => ?_)
            have h_v_9388 : 0 ≤ (v_9388 : Int32).toInt ∧ (v_9388 : Int32).toInt ≤ 12 := by rw [v_9388_e]; exact gr_nodes hG.r (⟨by decide, by decide⟩ : 0 ≤ (0 : Int32).toInt ∧ (0 : Int32).toInt ≤ 0)
            have g_v_9388 : v_9388 = sf (0) := v_9388_e.trans (congrArg sf rfl)
            have gi_v_9388 := congrArg Int32.toInt g_v_9388
            refine lv_icmp_ge (tgt := 59) hx hb dX12_comes_22 (by decide) (fun c_9389 => ?_) (fun c_9389 => ?_)
            · skip
              have c_9389_i := Int32.le_iff_toInt_le.mp c_9389
              refine lv_goto (tgt := 4) hx hb dX12_comes_59 (by decide) ?_
              exact ih_9362 x_9385 x_9360 ls (tr_w h_x_9385 (by decide) (by decide)) (tr_w h_x_9360 (by decide) (by decide)) hr9387_0 (CLm_done (m := x_9386.toInt.toNat) hr9387_1 (by omega)) (by have z_0 := tk_0; omega) (by omega) (lv_sub hl [1, 2, 3, 4] rfl)
            · skip
              have c_9389_i := Int32.lt_iff_toInt_lt.mp (Int32.not_le.mp c_9389)
              have c_9389_i := Int32.lt_iff_toInt_lt.mp (Int32.not_le.mp c_9389)
              have h_9390 : 0 ≤ (x_9386 : Int32).toInt ∧ (x_9386 : Int32).toInt ≤ 11 := by have q1 := h_x_9386; have q2 := h_v_9388; omega
              have h_9391 : 1 ≤ (v_9388 : Int32).toInt ∧ (v_9388 : Int32).toInt ≤ 12 := by have q1 := h_x_9386; have q2 := h_v_9388; omega
              refine lv_aload_n hx hb dX12_comes_25 rfl (lv_at hl 3 rfl) ?_
              refine lv_iload hx hb dX12_comes_26 (lv_at hl 0 rfl) ?_
              refine lv_iconst (v := 0) hx hb dX12_comes_28 (by decide) ?_
              have hPc := hP.sub (ws' := [(mm, .inr (12, (.int i_thrown :: .ref m_s :: .ref m_spare :: .ref m_kept :: .ref m_undone :: .ref m_triedWay :: .ref m_isKept :: .int i_undoMany :: .ref m_tape :: .int i_length :: .int i_size :: .int i_p :: .int i_at :: .int i_token :: .int i_number :: .int i_letterMany :: .int i_fault :: .int i_faultAt :: .ref m_letters :: .int i_isKnown :: .ref m_choice :: .ref m_row :: .ref m_up :: .ref m_low :: .ref m_m :: .ref m_bestUp :: .ref m_bestLow :: .ref m_replyUp :: .ref m_replyLow :: .ref m_worthUp :: .ref m_worthLow :: .ref m_bestWay :: .int i_seed :: .ref m_told :: .int i_toldMany :: []))), (m_s, .inl (g 0, 193, .inl sf))]) [0, 1] rfl
              refine vp_callSi (va_Run.run (va_runV (As := [.int x_9386, .int 0]) (rest := []) ⟨hx, hb, hml, hown, hts⟩ (c_X12_isKind l D g mm x_9386 0 i_thrown m_s m_spare m_kept m_undone m_triedWay m_isKept i_undoMany m_tape i_length i_size i_p i_at i_token i_number i_letterMany i_fault i_faultAt m_letters i_isKnown m_choice m_row m_up m_low m_m m_bestUp m_bestLow m_replyUp m_replyLow m_worthUp m_worthLow m_bestWay i_seed m_told i_toldMany sf (tr_w h_9390 (by decide) (by decide)) (tr_w h_i_undoMany (by decide) (by decide)) (tr_w h_i_length (by decide) (by decide)) (tr_w h_i_size (by decide) (by decide)) (tr_w h_i_p (by decide) (by decide)) (tr_w h_i_at (by decide) (by decide)) (tr_w h_i_token (by decide) (by decide)) (tr_w h_i_number (by decide) (by decide)) (tr_w h_i_letterMany (by decide) (by decide)) (tr_w h_i_isKnown (by decide) (by decide)) (tr_w h_i_toldMany (by decide) (by decide)) hG) (cwV 2 hts (tz_gV qw_94 qw_95 qw_96 qw_3 qw_97) rfl rfl rfl (by decide +kernel) ⟨Nat.le_of_ble_eq_true rfl, Nat.le_of_ble_eq_true rfl⟩) ⟨tz_blS, va_recv hK hPc (ci := 12) (q0 := 0) rfl rfl, tz_preS hPc hK⟩ rfl rfl hl.1 rfl (lv_room (Nat.le_of_ble_eq_true rfl)) dX12_comes_29 ⟨Nat.le_of_ble_eq_true rfl, Nat.le_of_ble_eq_true rfl⟩)) (fun r_9392 hw => ?_)
              have kk_0 := tk_0
              have hw_9393 : 0 ≤ (r_9392 : Int32).toInt ∧ (r_9392 : Int32).toInt ≤ 1 := hw.1
              have hw_9393_p0 : Hide (¬ (r_9392 : Int32).toInt = 0 → (sf (1 + (x_9386 : Int32).toInt.toNat)).toInt = (0 : Int32).toInt) := hw.2.1
              have hw_9393_p1 : Hide ((r_9392 : Int32).toInt = 0 → ¬ (sf (1 + (x_9386 : Int32).toInt.toNat)).toInt = (0 : Int32).toInt) := hw.2.2
              refine lv_if_ne (tgt := 53) hx hb dX12_comes_32 (by decide) (fun c_9394 => ?_) (fun c_9394 => ?_)
              · skip
                have c_9394_i := c_9394
                have c_9394_i : ¬ (r_9392 : Int32).toInt = (0 : Int32).toInt := (fun q => c_9394 (Int32.toInt_inj.mp q))
                have hw_9393_p0_u := (hw_9393_p0).get (fun q => c_9394_i (q.trans tk_0.symm))
                have c_9394_i := c_9394
                have c_9394_i : ¬ (r_9392 : Int32).toInt = (0 : Int32).toInt := (fun q => c_9394 (Int32.toInt_inj.mp q))
                have h_9395 : 1 ≤ (r_9392 : Int32).toInt ∧ (r_9392 : Int32).toInt ≤ 1 := by have q1 := hw_9393; have q2 := (⟨by decide, by decide⟩ : 0 ≤ (0 : Int32).toInt ∧ (0 : Int32).toInt ≤ 0); omega
                obtain ⟨v_9397, v_9397_e⟩ : ∃ y : Int32, y = x_9386 + Int32.ofInt 1 := ⟨_, rfl⟩
                have h_v_9397 : 1 ≤ (v_9397 : Int32).toInt ∧ (v_9397 : Int32).toInt ≤ 12 := by rw [v_9397_e]; exact tr_add h_9390 (⟨by decide, by decide⟩ : 1 ≤ (Int32.ofInt 1 : Int32).toInt ∧ (Int32.ofInt 1 : Int32).toInt ≤ 1) (by decide) (by decide) (by decide) (by decide)
                have q_v_9397 : v_9397.toInt = x_9386.toInt + 1 := by rw [v_9397_e]; exact tr_addE h_9390 (⟨by decide, by decide⟩ : 1 ≤ (Int32.ofInt 1 : Int32).toInt ∧ (Int32.ofInt 1 : Int32).toInt ≤ 1) (by decide) (by decide)
                refine lv_iinc (v := v_9397) (lv' := [(4, .int v_9397), (3, .int x_9360), (2, .int x_9385), (0, .ref mm), (1, .int p0)]) hx hb dX12_comes_53 hl (k := 0) rfl v_9397_e.symm (by decide) rfl (fun ls hl => ?_)
                refine lv_goto (tgt := 14) hx hb dX12_comes_56 (by decide) ?_
                exact ih_9387 x_9385 v_9397 ls (tr_w h_x_9385 (by decide) (by decide)) (tr_w h_v_9397 (by decide) (by decide)) hr9387_0 (CLm_end hr9387_1 (by have z_0 := tk_0; omega) (by omega)) (by have z_0 := tk_0; omega) (by have z_0 := tk_0; omega) (by omega) (lv_sub hl [0, 1, 2, 3, 4] rfl)
              · skip
                have c_9394_i := c_9394
                have c_9394_i : (r_9392 : Int32).toInt = (0 : Int32).toInt := congrArg Int32.toInt c_9394
                have hw_9393_p1_u := (hw_9393_p1).get (c_9394_i.trans tk_0)
                have c_9394_i := c_9394
                have c_9394_i : (r_9392 : Int32).toInt = (0 : Int32).toInt := congrArg Int32.toInt c_9394
                have h_9396 : 0 ≤ (r_9392 : Int32).toInt ∧ (r_9392 : Int32).toInt ≤ 0 := by have q1 := hw_9393; have q2 := (⟨by decide, by decide⟩ : 0 ≤ (0 : Int32).toInt ∧ (0 : Int32).toInt ≤ 0); omega
                refine lv_aload_n hx hb dX12_comes_35 rfl (lv_at hl 3 rfl) ?_
                refine lv_iload hx hb dX12_comes_36 (lv_at hl 0 rfl) ?_
                have hPc := hP.sub (ws' := [(mm, .inr (12, (.int i_thrown :: .ref m_s :: .ref m_spare :: .ref m_kept :: .ref m_undone :: .ref m_triedWay :: .ref m_isKept :: .int i_undoMany :: .ref m_tape :: .int i_length :: .int i_size :: .int i_p :: .int i_at :: .int i_token :: .int i_number :: .int i_letterMany :: .int i_fault :: .int i_faultAt :: .ref m_letters :: .int i_isKnown :: .ref m_choice :: .ref m_row :: .ref m_up :: .ref m_low :: .ref m_m :: .ref m_bestUp :: .ref m_bestLow :: .ref m_replyUp :: .ref m_replyLow :: .ref m_worthUp :: .ref m_worthLow :: .ref m_bestWay :: .int i_seed :: .ref m_told :: .int i_toldMany :: []))), (m_s, .inl (g 0, 193, .inl sf)), (m_choice, .inl (g 0, 12, .inl chf))]) [0, 1, 2] rfl
                refine vp_callSi (va_Run.run (va_runV (As := [.int x_9386]) (rest := []) ⟨hx, hb, hml, hown, hts⟩ (c_X12_onBits l D g mm x_9386 i_thrown m_s m_spare m_kept m_undone m_triedWay m_isKept i_undoMany m_tape i_length i_size i_p i_at i_token i_number i_letterMany i_fault i_faultAt m_letters i_isKnown m_choice m_row m_up m_low m_m m_bestUp m_bestLow m_replyUp m_replyLow m_worthUp m_worthLow m_bestWay i_seed m_told i_toldMany sf chf (tr_w h_9390 (by decide) (by decide)) (tr_w h_i_undoMany (by decide) (by decide)) (tr_w h_i_length (by decide) (by decide)) (tr_w h_i_size (by decide) (by decide)) (tr_w h_i_p (by decide) (by decide)) (tr_w h_i_at (by decide) (by decide)) (tr_w h_i_token (by decide) (by decide)) (tr_w h_i_number (by decide) (by decide)) (tr_w h_i_letterMany (by decide) (by decide)) (tr_w h_i_isKnown (by decide) (by decide)) (tr_w h_i_toldMany (by decide) (by decide)) (tr_wa h_chf (by decide) (by decide)) hG) (cwV 1 hts (tz_gV qw_126 qw_127 qw_128 qw_3 qw_129) rfl rfl rfl (by decide +kernel) ⟨Nat.le_of_ble_eq_true rfl, Nat.le_of_ble_eq_true rfl⟩) ⟨tz_blS, va_recv hK hPc (ci := 12) (q0 := 0) rfl rfl, tz_preS hPc hK⟩ rfl rfl hl.1 rfl (lv_room (Nat.le_of_ble_eq_true rfl)) dX12_comes_38 ⟨Nat.le_of_ble_eq_true rfl, Nat.le_of_ble_eq_true rfl⟩)) (fun r_9398 hw => ?_)
                have hw_9399 : 0 ≤ (r_9398 : Int32).toInt ∧ (r_9398 : Int32).toInt ≤ 4095 := hw.1
                have hw_9399_p0 : ∀ j : Nat, bt r_9398 j ↔ ON sf chf (x_9386 : Int32).toInt.toNat j := hw.2
                refine lv_iload_n hx hb dX12_comes_41 rfl (lv_at hl 2 rfl) ?_
                refine lv_iand hx hb dX12_comes_42 ?_
                refine lv_topi (fun v_9400 v_9400_e => ?_)
                refine lv_if_eq (tgt := 53) hx hb dX12_comes_43 (by decide) (fun c_9401 => ?_) (fun c_9401 => ?_)
                · skip
                  have c_9401_i := c_9401
                  have c_9401_i : (v_9400 : Int32).toInt = (0 : Int32).toInt := congrArg Int32.toInt c_9401
                  have h_9402 : 0 ≤ (v_9400 : Int32).toInt ∧ (v_9400 : Int32).toInt ≤ 0 := by rw [c_9401]; exact ⟨by decide, by decide⟩
                  obtain ⟨v_9403, v_9403_e⟩ : ∃ y : Int32, y = x_9386 + Int32.ofInt 1 := ⟨_, rfl⟩
                  have h_v_9403 : 1 ≤ (v_9403 : Int32).toInt ∧ (v_9403 : Int32).toInt ≤ 12 := by rw [v_9403_e]; exact tr_add h_9390 (⟨by decide, by decide⟩ : 1 ≤ (Int32.ofInt 1 : Int32).toInt ∧ (Int32.ofInt 1 : Int32).toInt ≤ 1) (by decide) (by decide) (by decide) (by decide)
                  have q_v_9403 : v_9403.toInt = x_9386.toInt + 1 := by rw [v_9403_e]; exact tr_addE h_9390 (⟨by decide, by decide⟩ : 1 ≤ (Int32.ofInt 1 : Int32).toInt ∧ (Int32.ofInt 1 : Int32).toInt ≤ 1) (by decide) (by decide)
                  refine lv_iinc (v := v_9403) (lv' := [(4, .int v_9403), (3, .int x_9360), (2, .int x_9385), (0, .ref mm), (1, .int p0)]) hx hb dX12_comes_53 hl (k := 0) rfl v_9403_e.symm (by decide) rfl (fun ls hl => ?_)
                  refine lv_goto (tgt := 14) hx hb dX12_comes_56 (by decide) ?_
                  exact ih_9387 x_9385 v_9403 ls (tr_w h_x_9385 (by decide) (by decide)) (tr_w h_v_9403 (by decide) (by decide)) hr9387_0 (CLm_not hr9387_1 h_x_9385 hw_9399_p0 hw_9399 (by rw [← v_9400_e]; exact c_9401) (by omega)) (by have z_0 := tk_0; omega) (by have z_0 := tk_0; omega) (by omega) (lv_sub hl [0, 1, 2, 3, 4] rfl)
                · skip
                  have c_9401_i := c_9401
                  have c_9401_i : ¬ (v_9400 : Int32).toInt = (0 : Int32).toInt := (fun q => c_9401 (Int32.toInt_inj.mp q))
                  refine lv_iload_n hx hb dX12_comes_46 rfl (lv_at hl 2 rfl) ?_
                  refine lv_iconst (v := 1) hx hb dX12_comes_47 (by decide) ?_
                  refine lv_iload hx hb dX12_comes_48 (lv_at hl 0 rfl) ?_
                  refine lv_ishl hx hb dX12_comes_50 ?_
                  refine lv_topi (fun v_9404 v_9404_e => ?_)
                  have h_v_9404 : 0 ≤ (v_9404 : Int32).toInt ∧ (v_9404 : Int32).toInt ≤ 4095 := by rw [v_9404_e]; exact tr_shl12 (tr_w h_9390 (by decide) (by decide))
                  refine lv_ior hx hb dX12_comes_51 ?_
                  refine lv_topi (fun v_9405 v_9405_e => ?_)
                  have h_v_9405 : 0 ≤ (v_9405 : Int32).toInt ∧ (v_9405 : Int32).toInt ≤ 4095 := by rw [v_9405_e]; exact (tr_or12 (tr_w h_x_9385 (by decide) (by decide)) (tr_w h_v_9404 (by decide) (by decide))).1
                  have o_v_9405 : (x_9385 : Int32).toInt ≤ (v_9405 : Int32).toInt := by rw [v_9405_e]; exact (tr_or12 (tr_w h_x_9385 (by decide) (by decide)) (tr_w h_v_9404 (by decide) (by decide))).2
                  refine lv_istore_n (lv' := [(2, .int v_9405), (4, .int x_9386), (3, .int x_9360), (0, .ref mm), (1, .int p0)]) hx hb dX12_comes_52 rfl hl (by decide) rfl (fun ls hl => ?_)
                  obtain ⟨v_9406, v_9406_e⟩ : ∃ y : Int32, y = x_9386 + Int32.ofInt 1 := ⟨_, rfl⟩
                  have h_v_9406 : 1 ≤ (v_9406 : Int32).toInt ∧ (v_9406 : Int32).toInt ≤ 12 := by rw [v_9406_e]; exact tr_add h_9390 (⟨by decide, by decide⟩ : 1 ≤ (Int32.ofInt 1 : Int32).toInt ∧ (Int32.ofInt 1 : Int32).toInt ≤ 1) (by decide) (by decide) (by decide) (by decide)
                  have q_v_9406 : v_9406.toInt = x_9386.toInt + 1 := by rw [v_9406_e]; exact tr_addE h_9390 (⟨by decide, by decide⟩ : 1 ≤ (Int32.ofInt 1 : Int32).toInt ∧ (Int32.ofInt 1 : Int32).toInt ≤ 1) (by decide) (by decide)
                  refine lv_iinc (v := v_9406) (lv' := [(4, .int v_9406), (2, .int v_9405), (3, .int x_9360), (0, .ref mm), (1, .int p0)]) hx hb dX12_comes_53 hl (k := 1) rfl v_9406_e.symm (by decide) rfl (fun ls hl => ?_)
                  refine lv_goto (tgt := 14) hx hb dX12_comes_56 (by decide) ?_
                  exact ih_9387 v_9405 v_9406 ls (tr_w h_v_9405 (by decide) (by decide)) (tr_w h_v_9406 (by decide) (by decide)) (LF_add (t := x_9386) hr9387_0 h_x_9385 h_9390 v_9404_e v_9405_e (by omega) (by omega) (by have z_0 := tk_0; omega) hw_9399_p0 hw_9399 (by rw [← v_9400_e]; exact c_9401)) (CLm_add (t := x_9386) hr9387_1 (by omega) h_x_9385 h_9390 v_9404_e v_9405_e (by omega) (by omega)) (by have z_0 := tk_0; omega) (by have z_0 := tk_0; omega) (by omega) (lv_sub hl [0, 2, 1, 3, 4] rfl)
        exact lp_9387 13 x_9360 0 ls (tr_w h_x_9360 (by decide) (by decide)) (⟨by decide, by decide⟩ : 0 ≤ (0 : Int32).toInt ∧ (0 : Int32).toInt ≤ 12) hr9362_0 (fun _ => CLm_zero) (by have z_0 := tk_0; omega) (by have z_0 := tk_0; omega) (by decide) (lv_sub hl [0, 1, 2, 3, 4] rfl)
  exact lp_9362 4097 p0 0 ls (tr_w h_p0 (by decide) (by decide)) (⟨by decide, by decide⟩ : 0 ≤ (0 : Int32).toInt ∧ (0 : Int32).toInt ≤ 4095) LF_self CL_zero (by have z_0 := tk_0; omega) (by have z9_0 := tk_0; omega) (lv_sub hl [0, 1, 2, 3] rfl)
