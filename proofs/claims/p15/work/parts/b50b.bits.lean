theorem qw_121 : Cond.methodLink RX12 197 yX12_to ∈ wsL_law := tseg_6 (by decide +kernel) (List.mem_of_getElem? (i := 106) (by decide +kernel))
theorem qw_122 : Cond.instanceMethod yX12_to ∈ wsL_law := tseg_6 (by decide +kernel) (List.mem_of_getElem? (i := 108) (by decide +kernel))
theorem qw_123 : Cond.selects RX12 yX12_to yX12_to ∈ wsL_law := List.mem_filter.mpr ⟨List.mem_append_left _ (List.mem_of_getElem? (i := 66) (by decide +kernel)), by decide +kernel⟩
theorem qw_124 : Cond.code yX12_to cX12_to 3 (some .int) ∈ wsL_law := tseg_6 (by decide +kernel) (List.mem_of_getElem? (i := 109) (by decide +kernel))
theorem qw_125 : Cond.fieldLink RX12 40 "ChanceRingsModel" "choice" "[I" ∈ wsL_law := tseg_5 (by decide +kernel) (List.mem_of_getElem? (i := 147) (by decide +kernel))
theorem qw_126 : Cond.methodLink RX12 208 yX12_onBits ∈ wsL_law := tseg_6 (by decide +kernel) (List.mem_of_getElem? (i := 149) (by decide +kernel))
theorem qw_127 : Cond.instanceMethod yX12_onBits ∈ wsL_law := tseg_6 (by decide +kernel) (List.mem_of_getElem? (i := 151) (by decide +kernel))
theorem qw_128 : Cond.selects RX12 yX12_onBits yX12_onBits ∈ wsL_law := List.mem_filter.mpr ⟨List.mem_append_left _ (List.mem_of_getElem? (i := 75) (by decide +kernel)), by decide +kernel⟩
theorem qw_129 : Cond.code yX12_onBits cX12_onBits 4 (some .int) ∈ wsL_law := tseg_6 (by decide +kernel) (List.mem_of_getElem? (i := 152) (by decide +kernel))
theorem dX12_bitOf_0 : decode cX12_bitOf 0 = .ok (.iload_n 0, 1) := by decide +kernel
theorem dX12_bitOf_1 : decode cX12_bitOf 1 = .ok (.iload_n 1, 1) := by decide +kernel
theorem dX12_bitOf_2 : decode cX12_bitOf 2 = .ok (.ishr, 1) := by decide +kernel
theorem dX12_bitOf_3 : decode cX12_bitOf 3 = .ok (.iconst 1, 1) := by decide +kernel
theorem dX12_bitOf_4 : decode cX12_bitOf 4 = .ok (.iand, 1) := by decide +kernel
theorem dX12_bitOf_5 : decode cX12_bitOf 5 = .ok (.iconst 1, 1) := by decide +kernel
theorem dX12_bitOf_6 : decode cX12_bitOf 6 = .ok (.if_icmp .ne 7, 3) := by decide +kernel
theorem dX12_bitOf_9 : decode cX12_bitOf 9 = .ok (.iconst 1, 1) := by decide +kernel
theorem dX12_bitOf_10 : decode cX12_bitOf 10 = .ok (.goto 4, 3) := by decide +kernel
theorem dX12_bitOf_13 : decode cX12_bitOf 13 = .ok (.iconst 0, 1) := by decide +kernel
theorem dX12_bitOf_14 : decode cX12_bitOf 14 = .ok (.ireturn, 1) := by decide +kernel
theorem dX12_comes_0 : decode cX12_comes 0 = .ok (.iload_n 1, 1) := by decide +kernel
theorem dX12_comes_1 : decode cX12_comes 1 = .ok (.istore_n 2, 1) := by decide +kernel
theorem dX12_comes_2 : decode cX12_comes 2 = .ok (.iconst 0, 1) := by decide +kernel
theorem dX12_comes_3 : decode cX12_comes 3 = .ok (.istore_n 3, 1) := by decide +kernel
theorem dX12_comes_4 : decode cX12_comes 4 = .ok (.iload_n 3, 1) := by decide +kernel
theorem dX12_comes_5 : decode cX12_comes 5 = .ok (.iload_n 2, 1) := by decide +kernel
theorem dX12_comes_6 : decode cX12_comes 6 = .ok (.if_icmp .eq 56, 3) := by decide +kernel
theorem dX12_comes_9 : decode cX12_comes 9 = .ok (.iload_n 2, 1) := by decide +kernel
theorem dX12_comes_10 : decode cX12_comes 10 = .ok (.istore_n 3, 1) := by decide +kernel
theorem dX12_comes_11 : decode cX12_comes 11 = .ok (.iconst 0, 1) := by decide +kernel
theorem dX12_comes_12 : decode cX12_comes 12 = .ok (.istore 4, 2) := by decide +kernel
theorem dX12_comes_14 : decode cX12_comes 14 = .ok (.iload 4, 2) := by decide +kernel
theorem dX12_comes_16 : decode cX12_comes 16 = .ok (.aload_n 0, 1) := by decide +kernel
theorem dX12_comes_17 : decode cX12_comes 17 = .ok (.getfield 13, 3) := by decide +kernel
theorem dX12_comes_20 : decode cX12_comes 20 = .ok (.iconst 0, 1) := by decide +kernel
theorem dX12_comes_21 : decode cX12_comes 21 = .ok (.iaload, 1) := by decide +kernel
theorem dX12_comes_22 : decode cX12_comes 22 = .ok (.if_icmp .ge 37, 3) := by decide +kernel
theorem dX12_comes_25 : decode cX12_comes 25 = .ok (.aload_n 0, 1) := by decide +kernel
theorem dX12_comes_26 : decode cX12_comes 26 = .ok (.iload 4, 2) := by decide +kernel
theorem dX12_comes_28 : decode cX12_comes 28 = .ok (.iconst 0, 1) := by decide +kernel
theorem dX12_comes_29 : decode cX12_comes 29 = .ok (.invokevirtual 187, 3) := by decide +kernel
theorem dX12_comes_32 : decode cX12_comes 32 = .ok (.ifCond .ne 21, 3) := by decide +kernel
theorem dX12_comes_35 : decode cX12_comes 35 = .ok (.aload_n 0, 1) := by decide +kernel
theorem dX12_comes_36 : decode cX12_comes 36 = .ok (.iload 4, 2) := by decide +kernel
theorem dX12_comes_38 : decode cX12_comes 38 = .ok (.invokevirtual 208, 3) := by decide +kernel
theorem dX12_comes_41 : decode cX12_comes 41 = .ok (.iload_n 2, 1) := by decide +kernel
theorem dX12_comes_42 : decode cX12_comes 42 = .ok (.iand, 1) := by decide +kernel
theorem dX12_comes_43 : decode cX12_comes 43 = .ok (.ifCond .eq 10, 3) := by decide +kernel
theorem dX12_comes_46 : decode cX12_comes 46 = .ok (.iload_n 2, 1) := by decide +kernel
theorem dX12_comes_47 : decode cX12_comes 47 = .ok (.iconst 1, 1) := by decide +kernel
theorem dX12_comes_48 : decode cX12_comes 48 = .ok (.iload 4, 2) := by decide +kernel
theorem dX12_comes_50 : decode cX12_comes 50 = .ok (.ishl, 1) := by decide +kernel
theorem dX12_comes_51 : decode cX12_comes 51 = .ok (.ior, 1) := by decide +kernel
theorem dX12_comes_52 : decode cX12_comes 52 = .ok (.istore_n 2, 1) := by decide +kernel
theorem dX12_comes_53 : decode cX12_comes 53 = .ok (.iinc 4 1, 3) := by decide +kernel
theorem dX12_comes_56 : decode cX12_comes 56 = .ok (.goto (-42), 3) := by decide +kernel
theorem dX12_comes_59 : decode cX12_comes 59 = .ok (.goto (-55), 3) := by decide +kernel
theorem dX12_comes_62 : decode cX12_comes 62 = .ok (.iload_n 2, 1) := by decide +kernel
theorem dX12_comes_63 : decode cX12_comes 63 = .ok (.ireturn, 1) := by decide +kernel
theorem dX12_ends_0 : decode cX12_ends 0 = .ok (.iconst 0, 1) := by decide +kernel
theorem dX12_ends_1 : decode cX12_ends 1 = .ok (.istore_n 1, 1) := by decide +kernel
theorem dX12_ends_2 : decode cX12_ends 2 = .ok (.iconst 0, 1) := by decide +kernel
theorem dX12_ends_3 : decode cX12_ends 3 = .ok (.istore_n 2, 1) := by decide +kernel
theorem dX12_ends_4 : decode cX12_ends 4 = .ok (.iload_n 2, 1) := by decide +kernel
theorem dX12_ends_5 : decode cX12_ends 5 = .ok (.aload_n 0, 1) := by decide +kernel
theorem dX12_ends_6 : decode cX12_ends 6 = .ok (.getfield 13, 3) := by decide +kernel
theorem dX12_ends_9 : decode cX12_ends 9 = .ok (.iconst 0, 1) := by decide +kernel
theorem dX12_ends_10 : decode cX12_ends 10 = .ok (.iaload, 1) := by decide +kernel
theorem dX12_ends_11 : decode cX12_ends 11 = .ok (.if_icmp .ge 28, 3) := by decide +kernel
theorem dX12_ends_14 : decode cX12_ends 14 = .ok (.iload_n 1, 1) := by decide +kernel
theorem dX12_ends_15 : decode cX12_ends 15 = .ok (.aload_n 0, 1) := by decide +kernel
theorem dX12_ends_16 : decode cX12_ends 16 = .ok (.iload_n 2, 1) := by decide +kernel
theorem dX12_ends_17 : decode cX12_ends 17 = .ok (.iconst 0, 1) := by decide +kernel
theorem dX12_ends_18 : decode cX12_ends 18 = .ok (.invokevirtual 187, 3) := by decide +kernel
theorem dX12_ends_21 : decode cX12_ends 21 = .ok (.ifCond .eq 9, 3) := by decide +kernel
theorem dX12_ends_24 : decode cX12_ends 24 = .ok (.iconst 1, 1) := by decide +kernel
theorem dX12_ends_25 : decode cX12_ends 25 = .ok (.iload_n 2, 1) := by decide +kernel
theorem dX12_ends_26 : decode cX12_ends 26 = .ok (.ishl, 1) := by decide +kernel
theorem dX12_ends_27 : decode cX12_ends 27 = .ok (.goto 4, 3) := by decide +kernel
theorem dX12_ends_30 : decode cX12_ends 30 = .ok (.iconst 0, 1) := by decide +kernel
theorem dX12_ends_31 : decode cX12_ends 31 = .ok (.ior, 1) := by decide +kernel
theorem dX12_ends_32 : decode cX12_ends 32 = .ok (.istore_n 1, 1) := by decide +kernel
theorem dX12_ends_33 : decode cX12_ends 33 = .ok (.iinc 2 1, 3) := by decide +kernel
theorem dX12_ends_36 : decode cX12_ends 36 = .ok (.goto (-32), 3) := by decide +kernel
theorem dX12_ends_39 : decode cX12_ends 39 = .ok (.iload_n 1, 1) := by decide +kernel
theorem dX12_ends_40 : decode cX12_ends 40 = .ok (.ireturn, 1) := by decide +kernel
theorem dX12_isPart_0 : decode cX12_isPart 0 = .ok (.iload_n 0, 1) := by decide +kernel
theorem dX12_isPart_1 : decode cX12_isPart 1 = .ok (.ifCond .eq 8, 3) := by decide +kernel
theorem dX12_isPart_4 : decode cX12_isPart 4 = .ok (.iload_n 0, 1) := by decide +kernel
theorem dX12_isPart_5 : decode cX12_isPart 5 = .ok (.iconst 1, 1) := by decide +kernel
theorem dX12_isPart_6 : decode cX12_isPart 6 = .ok (.if_icmp .ne 7, 3) := by decide +kernel
theorem dX12_isPart_9 : decode cX12_isPart 9 = .ok (.iconst 1, 1) := by decide +kernel
theorem dX12_isPart_10 : decode cX12_isPart 10 = .ok (.goto 4, 3) := by decide +kernel
theorem dX12_isPart_13 : decode cX12_isPart 13 = .ok (.iconst 0, 1) := by decide +kernel
theorem dX12_isPart_14 : decode cX12_isPart 14 = .ok (.ireturn, 1) := by decide +kernel
theorem dX12_onBits_0 : decode cX12_onBits 0 = .ok (.iconst 0, 1) := by decide +kernel
theorem dX12_onBits_1 : decode cX12_onBits 1 = .ok (.istore_n 2, 1) := by decide +kernel
theorem dX12_onBits_2 : decode cX12_onBits 2 = .ok (.iconst 0, 1) := by decide +kernel
theorem dX12_onBits_3 : decode cX12_onBits 3 = .ok (.istore_n 3, 1) := by decide +kernel
theorem dX12_onBits_4 : decode cX12_onBits 4 = .ok (.iload_n 3, 1) := by decide +kernel
theorem dX12_onBits_5 : decode cX12_onBits 5 = .ok (.aload_n 0, 1) := by decide +kernel
theorem dX12_onBits_6 : decode cX12_onBits 6 = .ok (.getfield 13, 3) := by decide +kernel
theorem dX12_onBits_9 : decode cX12_onBits 9 = .ok (.bipush 25, 2) := by decide +kernel
theorem dX12_onBits_11 : decode cX12_onBits 11 = .ok (.iload_n 1, 1) := by decide +kernel
theorem dX12_onBits_12 : decode cX12_onBits 12 = .ok (.iadd, 1) := by decide +kernel
theorem dX12_onBits_13 : decode cX12_onBits 13 = .ok (.iaload, 1) := by decide +kernel
theorem dX12_onBits_14 : decode cX12_onBits 14 = .ok (.if_icmp .ge 39, 3) := by decide +kernel
theorem dX12_onBits_17 : decode cX12_onBits 17 = .ok (.aload_n 0, 1) := by decide +kernel
theorem dX12_onBits_18 : decode cX12_onBits 18 = .ok (.iload_n 1, 1) := by decide +kernel
theorem dX12_onBits_19 : decode cX12_onBits 19 = .ok (.iconst 3, 1) := by decide +kernel
theorem dX12_onBits_20 : decode cX12_onBits 20 = .ok (.invokevirtual 187, 3) := by decide +kernel
theorem dX12_onBits_23 : decode cX12_onBits 23 = .ok (.ifCond .ne 13, 3) := by decide +kernel
theorem dX12_onBits_26 : decode cX12_onBits 26 = .ok (.aload_n 0, 1) := by decide +kernel
theorem dX12_onBits_27 : decode cX12_onBits 27 = .ok (.getfield 40, 3) := by decide +kernel
theorem dX12_onBits_30 : decode cX12_onBits 30 = .ok (.iload_n 1, 1) := by decide +kernel
theorem dX12_onBits_31 : decode cX12_onBits 31 = .ok (.iaload, 1) := by decide +kernel
theorem dX12_onBits_32 : decode cX12_onBits 32 = .ok (.iload_n 3, 1) := by decide +kernel
theorem dX12_onBits_33 : decode cX12_onBits 33 = .ok (.if_icmp .ne 14, 3) := by decide +kernel
theorem dX12_onBits_36 : decode cX12_onBits 36 = .ok (.iload_n 2, 1) := by decide +kernel
theorem dX12_onBits_37 : decode cX12_onBits 37 = .ok (.iconst 1, 1) := by decide +kernel
theorem dX12_onBits_38 : decode cX12_onBits 38 = .ok (.aload_n 0, 1) := by decide +kernel
theorem dX12_onBits_39 : decode cX12_onBits 39 = .ok (.iload_n 1, 1) := by decide +kernel
theorem dX12_onBits_40 : decode cX12_onBits 40 = .ok (.iload_n 3, 1) := by decide +kernel
theorem dX12_onBits_41 : decode cX12_onBits 41 = .ok (.invokevirtual 197, 3) := by decide +kernel
theorem dX12_onBits_44 : decode cX12_onBits 44 = .ok (.ishl, 1) := by decide +kernel
theorem dX12_onBits_45 : decode cX12_onBits 45 = .ok (.ior, 1) := by decide +kernel
theorem dX12_onBits_46 : decode cX12_onBits 46 = .ok (.istore_n 2, 1) := by decide +kernel
theorem dX12_onBits_47 : decode cX12_onBits 47 = .ok (.iinc 3 1, 3) := by decide +kernel
theorem dX12_onBits_50 : decode cX12_onBits 50 = .ok (.goto (-46), 3) := by decide +kernel
theorem dX12_onBits_53 : decode cX12_onBits 53 = .ok (.iload_n 2, 1) := by decide +kernel
theorem dX12_onBits_54 : decode cX12_onBits 54 = .ok (.ireturn, 1) := by decide +kernel
set_option maxHeartbeats 4000000 in
set_option maxRecDepth 100000 in
theorem c_X12_isPart (l : Launch) (D : va_G) (g : Nat → ClassId) (p0 : Int32) : Met l yX12_isPart (.code yX12_isPart cX12_isPart 1 (some .boolean) :: wsL_law) ({ frames := 0, cells := 0, slots := 0, locals := 0 }) (va_Pc [.int p0] (fun U => va_P D vwCl [] U.heap ∧ va_K D vwCl (TY g) U)) (vp_Si (fun r => (0 ≤ (r : Int32).toInt ∧ (r : Int32).toInt ≤ 1) ∧ (Hide (¬ (r : Int32).toInt = 0 → (p0 : Int32).toInt = 0 ∨ (p0 : Int32).toInt = 1)))) 0 0 (fun _ => False) := by
  refine Met.ofW (cc := cX12_isPart) (maxL := 1) (ret := (some .boolean)) (by decide) rfl ?_
  intro p e s m args below meth c s₁ B hml hv
  obtain ⟨ha, hP, hK⟩ := hv
  have hx := B.exec
  have hb := B.bytes
  have hr := B.returns
  have hts0 := atoms_spec (ws := (.code yX12_isPart cX12_isPart 1 (some .boolean) :: wsL_law)) B.pre
  have hts : ∀ w ∈ wsL_law, w.before args s = true := fun w h => hts0 w (List.mem_cons_of_mem _ h)
  have hown : s.vm.findClass RX12 = some m.cls := findClass_of_methodNamed B.named
  have hlocks := B.notSynchronized
  have hP : va_P D vwCl [] s.heap := hP
  refine W.eq (g2 := entryFrame m ([.int p0] : List Value).toArray 1) (by rw [ha]) ?_
  have hl := lv_entry ([.int p0]) (n := 1) (Nat.le_of_ble_eq_true rfl)
  rw [lg_entry_eq]
  generalize (lg_sl ([.int p0]) ++ List.replicate (1 - (lg_sl ([.int p0])).length) Slot.unset).toArray = ls at hl ⊢
  have hl : lv_has ls 1 [(0, .int p0)] := hl
  refine lv_iload_n hx hb dX12_isPart_0 rfl (lv_at hl 0 rfl) ?_
  refine lv_if_eq (tgt := 9) hx hb dX12_isPart_1 (by decide) (fun c_7415 => ?_) (fun c_7415 => ?_)
  · skip
    have kk_0 := tk_0
    have c_7415_i : (p0 : Int32).toInt = (0 : Int32).toInt := congrArg Int32.toInt c_7415
    have h_7416 : 0 ≤ (p0 : Int32).toInt ∧ (p0 : Int32).toInt ≤ 0 := by rw [c_7415]; exact ⟨by decide, by decide⟩
    refine lv_iconst (v := 1) hx hb dX12_isPart_9 (by decide) ?_
    refine lv_goto (tgt := 14) hx hb dX12_isPart_10 (by decide) ?_
    exact W.zret (v := 1) hx hb hr (by decide) (fun t ht hW => ⟨1, rfl, ⟨(⟨by decide, by decide⟩ : 0 ≤ (1 : Int32).toInt ∧ (1 : Int32).toInt ≤ 1), (fun h9 => (by have z_0 := tk_0; have z_1 := tk_1; omega))⟩, ht⟩) (fun _ h => nomatch h) dX12_isPart_14
  · skip
    have kk_0 := tk_0
    have c_7415_i : ¬ (p0 : Int32).toInt = (0 : Int32).toInt := (fun q => c_7415 (Int32.toInt_inj.mp q))
    refine lv_iload_n hx hb dX12_isPart_4 rfl (lv_at hl 0 rfl) ?_
    refine lv_iconst (v := 1) hx hb dX12_isPart_5 (by decide) ?_
    refine lv_icmp_ne (tgt := 13) hx hb dX12_isPart_6 (by decide) (fun c_7417 => ?_) (fun c_7417 => ?_)
    · skip
      have kk_1 := tk_1
      have c_7417_i : ¬ (p0 : Int32).toInt = (1 : Int32).toInt := (fun q => c_7417 (Int32.toInt_inj.mp q))
      refine lv_iconst (v := 0) hx hb dX12_isPart_13 (by decide) ?_
      exact W.zret (v := 0) hx hb hr (by decide) (fun t ht hW => ⟨0, rfl, ⟨(⟨by decide, by decide⟩ : 0 ≤ (0 : Int32).toInt ∧ (0 : Int32).toInt ≤ 1), (fun h9 => (by have z_0 := tk_0; have z_1 := tk_1; omega))⟩, ht⟩) (fun _ h => nomatch h) dX12_isPart_14
    · skip
      have kk_1 := tk_1
      have c_7417_i : (p0 : Int32).toInt = (1 : Int32).toInt := congrArg Int32.toInt c_7417
      have h_7418 : 1 ≤ (p0 : Int32).toInt ∧ (p0 : Int32).toInt ≤ 1 := by rw [c_7417]; exact ⟨by decide, by decide⟩
      refine lv_iconst (v := 1) hx hb dX12_isPart_9 (by decide) ?_
      refine lv_goto (tgt := 14) hx hb dX12_isPart_10 (by decide) ?_
      exact W.zret (v := 1) hx hb hr (by decide) (fun t ht hW => ⟨1, rfl, ⟨(⟨by decide, by decide⟩ : 0 ≤ (1 : Int32).toInt ∧ (1 : Int32).toInt ≤ 1), (fun h9 => (by have z_0 := tk_0; have z_1 := tk_1; omega))⟩, ht⟩) (fun _ h => nomatch h) dX12_isPart_14
set_option maxHeartbeats 4000000 in
set_option maxRecDepth 100000 in
theorem c_X12_bitOf (l : Launch) (D : va_G) (g : Nat → ClassId) (p0 : Int32) (p1 : Int32) : Met l yX12_bitOf (.code yX12_bitOf cX12_bitOf 2 (some .boolean) :: wsL_law) ({ frames := 0, cells := 0, slots := 0, locals := 0 }) (va_Pc [.int p0, .int p1] (fun U => va_P D vwCl [] U.heap ∧ va_K D vwCl (TY g) U)) (vp_Si (fun r => 0 ≤ (r : Int32).toInt ∧ (r : Int32).toInt ≤ 1)) 0 0 (fun _ => False) := by
  refine Met.ofW (cc := cX12_bitOf) (maxL := 2) (ret := (some .boolean)) (by decide) rfl ?_
  intro p e s m args below meth c s₁ B hml hv
  obtain ⟨ha, hP, hK⟩ := hv
  have hx := B.exec
  have hb := B.bytes
  have hr := B.returns
  have hts0 := atoms_spec (ws := (.code yX12_bitOf cX12_bitOf 2 (some .boolean) :: wsL_law)) B.pre
  have hts : ∀ w ∈ wsL_law, w.before args s = true := fun w h => hts0 w (List.mem_cons_of_mem _ h)
  have hown : s.vm.findClass RX12 = some m.cls := findClass_of_methodNamed B.named
  have hlocks := B.notSynchronized
  have hP : va_P D vwCl [] s.heap := hP
  refine W.eq (g2 := entryFrame m ([.int p0, .int p1] : List Value).toArray 2) (by rw [ha]) ?_
  have hl := lv_entry ([.int p0, .int p1]) (n := 2) (Nat.le_of_ble_eq_true rfl)
  rw [lg_entry_eq]
  generalize (lg_sl ([.int p0, .int p1]) ++ List.replicate (2 - (lg_sl ([.int p0, .int p1])).length) Slot.unset).toArray = ls at hl ⊢
  have hl : lv_has ls 2 [(0, .int p0), (1, .int p1)] := hl
  refine lv_iload_n hx hb dX12_bitOf_0 rfl (lv_at hl 0 rfl) ?_
  refine lv_iload_n hx hb dX12_bitOf_1 rfl (lv_at hl 1 rfl) ?_
  refine lv_ishr hx hb dX12_bitOf_2 ?_
  refine lv_topi (fun v_7419 v_7419_e => ?_)
  refine lv_iconst (v := 1) hx hb dX12_bitOf_3 (by decide) ?_
  refine lv_iand hx hb dX12_bitOf_4 ?_
  refine lv_topi (fun v_7420 v_7420_e => ?_)
  refine lv_iconst (v := 1) hx hb dX12_bitOf_5 (by decide) ?_
  refine lv_icmp_ne (tgt := 13) hx hb dX12_bitOf_6 (by decide) (fun c_7421 => ?_) (fun c_7421 => ?_)
  · skip
    have kk_1 := tk_1
    have c_7421_i : ¬ (v_7420 : Int32).toInt = (1 : Int32).toInt := (fun q => c_7421 (Int32.toInt_inj.mp q))
    refine lv_iconst (v := 0) hx hb dX12_bitOf_13 (by decide) ?_
    exact W.zret (v := 0) hx hb hr (by decide) (fun t ht hW => ⟨0, rfl, (⟨by decide, by decide⟩ : 0 ≤ (0 : Int32).toInt ∧ (0 : Int32).toInt ≤ 1), ht⟩) (fun _ h => nomatch h) dX12_bitOf_14
  · skip
    have kk_1 := tk_1
    have c_7421_i : (v_7420 : Int32).toInt = (1 : Int32).toInt := congrArg Int32.toInt c_7421
    have h_7422 : 1 ≤ (v_7420 : Int32).toInt ∧ (v_7420 : Int32).toInt ≤ 1 := by rw [c_7421]; exact ⟨by decide, by decide⟩
    refine lv_iconst (v := 1) hx hb dX12_bitOf_9 (by decide) ?_
    refine lv_goto (tgt := 14) hx hb dX12_bitOf_10 (by decide) ?_
    exact W.zret (v := 1) hx hb hr (by decide) (fun t ht hW => ⟨1, rfl, (⟨by decide, by decide⟩ : 0 ≤ (1 : Int32).toInt ∧ (1 : Int32).toInt ≤ 1), ht⟩) (fun _ h => nomatch h) dX12_bitOf_14
set_option maxHeartbeats 4000000 in
set_option maxRecDepth 100000 in
theorem c_X12_bitOf2 (l : Launch) (D : va_G) (g : Nat → ClassId) (p0 : Int32) (p1 : Int32) (h_p0 : 0 ≤ (p0 : Int32).toInt ∧ (p0 : Int32).toInt ≤ 4095) (h_p1 : 0 ≤ (p1 : Int32).toInt ∧ (p1 : Int32).toInt ≤ 11) : Met l yX12_bitOf (.code yX12_bitOf cX12_bitOf 2 (some .boolean) :: wsL_law) ({ frames := 0, cells := 0, slots := 0, locals := 0 }) (va_Pc [.int p0, .int p1] (fun U => va_P D vwCl [] U.heap ∧ va_K D vwCl (TY g) U)) (vp_Si (fun r => (0 ≤ (r : Int32).toInt ∧ (r : Int32).toInt ≤ 1) ∧ (Hide (¬ (r : Int32).toInt = 0 → bt p0 (p1 : Int32).toInt.toNat)) ∧ (Hide ((r : Int32).toInt = 0 → ¬ bt p0 (p1 : Int32).toInt.toNat)))) 0 0 (fun _ => False) := by
  refine Met.ofW (cc := cX12_bitOf) (maxL := 2) (ret := (some .boolean)) (by decide) rfl ?_
  intro p e s m args below meth c s₁ B hml hv
  obtain ⟨ha, hP, hK⟩ := hv
  have hx := B.exec
  have hb := B.bytes
  have hr := B.returns
  have hts0 := atoms_spec (ws := (.code yX12_bitOf cX12_bitOf 2 (some .boolean) :: wsL_law)) B.pre
  have hts : ∀ w ∈ wsL_law, w.before args s = true := fun w h => hts0 w (List.mem_cons_of_mem _ h)
  have hown : s.vm.findClass RX12 = some m.cls := findClass_of_methodNamed B.named
  have hlocks := B.notSynchronized
  have hP : va_P D vwCl [] s.heap := hP
  refine W.eq (g2 := entryFrame m ([.int p0, .int p1] : List Value).toArray 2) (by rw [ha]) ?_
  have hl := lv_entry ([.int p0, .int p1]) (n := 2) (Nat.le_of_ble_eq_true rfl)
  rw [lg_entry_eq]
  generalize (lg_sl ([.int p0, .int p1]) ++ List.replicate (2 - (lg_sl ([.int p0, .int p1])).length) Slot.unset).toArray = ls at hl ⊢
  have hl : lv_has ls 2 [(0, .int p0), (1, .int p1)] := hl
  refine lv_iload_n hx hb dX12_bitOf_0 rfl (lv_at hl 0 rfl) ?_
  refine lv_iload_n hx hb dX12_bitOf_1 rfl (lv_at hl 1 rfl) ?_
  refine lv_ishr hx hb dX12_bitOf_2 ?_
  refine lv_topi (fun v_7423 v_7423_e => ?_)
  refine lv_iconst (v := 1) hx hb dX12_bitOf_3 (by decide) ?_
  refine lv_iand hx hb dX12_bitOf_4 ?_
  refine lv_topi (fun v_7424 v_7424_e => ?_)
  refine lv_iconst (v := 1) hx hb dX12_bitOf_5 (by decide) ?_
  refine lv_icmp_ne (tgt := 13) hx hb dX12_bitOf_6 (by decide) (fun c_7425 => ?_) (fun c_7425 => ?_)
  · skip
    have kk_1 := tk_1
    have c_7425_i : ¬ (v_7424 : Int32).toInt = (1 : Int32).toInt := (fun q => c_7425 (Int32.toInt_inj.mp q))
    refine lv_iconst (v := 0) hx hb dX12_bitOf_13 (by decide) ?_
    exact W.zret (v := 0) hx hb hr (by decide) (fun t ht hW => ⟨0, rfl, ⟨(⟨by decide, by decide⟩ : 0 ≤ (0 : Int32).toInt ∧ (0 : Int32).toInt ≤ 1), (fun h9 => absurd h9 (by decide)), (fun _ h8 => c_7425 (by rw [v_7424_e, v_7423_e]; exact (tr_bit h_p0 h_p1).mpr h8))⟩, ht⟩) (fun _ h => nomatch h) dX12_bitOf_14
  · skip
    have kk_1 := tk_1
    have c_7425_i : (v_7424 : Int32).toInt = (1 : Int32).toInt := congrArg Int32.toInt c_7425
    have h_7426 : 1 ≤ (v_7424 : Int32).toInt ∧ (v_7424 : Int32).toInt ≤ 1 := by rw [c_7425]; exact ⟨by decide, by decide⟩
    refine lv_iconst (v := 1) hx hb dX12_bitOf_9 (by decide) ?_
    refine lv_goto (tgt := 14) hx hb dX12_bitOf_10 (by decide) ?_
    exact W.zret (v := 1) hx hb hr (by decide) (fun t ht hW => ⟨1, rfl, ⟨(⟨by decide, by decide⟩ : 0 ≤ (1 : Int32).toInt ∧ (1 : Int32).toInt ≤ 1), (fun _ => (tr_bit h_p0 h_p1).mp (by rw [← v_7423_e, ← v_7424_e]; exact c_7425)), (fun h9 => absurd h9 (by decide))⟩, ht⟩) (fun _ h => nomatch h) dX12_bitOf_14
set_option maxHeartbeats 4000000 in
set_option maxRecDepth 100000 in
theorem c_X12_onBits (l : Launch) (D : va_G) (g : Nat → ClassId) (mm : Nat) (p0 : Int32) (i_thrown : Int32) (m_s : Nat) (m_spare : Nat) (m_kept : Nat) (m_undone : Nat) (m_triedWay : Nat) (m_isKept : Nat) (i_undoMany : Int32) (m_tape : Nat) (i_length : Int32) (i_size : Int32) (i_p : Int32) (i_at : Int32) (i_token : Int32) (i_number : Int32) (i_letterMany : Int32) (i_fault : Int32) (i_faultAt : Int32) (m_letters : Nat) (i_isKnown : Int32) (m_choice : Nat) (m_row : Nat) (m_up : Nat) (m_low : Nat) (m_m : Nat) (m_bestUp : Nat) (m_bestLow : Nat) (m_replyUp : Nat) (m_replyLow : Nat) (m_worthUp : Nat) (m_worthLow : Nat) (m_bestWay : Nat) (i_seed : Int32) (m_told : Nat) (i_toldMany : Int32) (sf : Nat → Int32) (chf : Nat → Int32) (h_p0 : 0 ≤ (p0 : Int32).toInt ∧ (p0 : Int32).toInt ≤ 11) (h_i_undoMany : 0 ≤ (i_undoMany : Int32).toInt ∧ (i_undoMany : Int32).toInt ≤ 8) (h_i_length : 0 ≤ (i_length : Int32).toInt ∧ (i_length : Int32).toInt ≤ 440) (h_i_size : 0 ≤ (i_size : Int32).toInt ∧ (i_size : Int32).toInt ≤ 440) (h_i_p : 0 ≤ (i_p : Int32).toInt ∧ (i_p : Int32).toInt ≤ 440) (h_i_at : 0 ≤ (i_at : Int32).toInt ∧ (i_at : Int32).toInt ≤ 440) (h_i_token : 0 ≤ (i_token : Int32).toInt ∧ (i_token : Int32).toInt ≤ 4) (h_i_number : 0 ≤ (i_number : Int32).toInt ∧ (i_number : Int32).toInt ≤ 814) (h_i_letterMany : (-440) ≤ (i_letterMany : Int32).toInt ∧ (i_letterMany : Int32).toInt ≤ 440) (h_i_faultAt : 0 ≤ (i_faultAt : Int32).toInt ∧ (i_faultAt : Int32).toInt ≤ 440) (h_i_isKnown : 0 ≤ (i_isKnown : Int32).toInt ∧ (i_isKnown : Int32).toInt ≤ 1) (h_i_toldMany : 0 ≤ (i_toldMany : Int32).toInt ∧ (i_toldMany : Int32).toInt ≤ 900) (h_chf : ∀ j : Nat, 0 ≤ (chf j).toInt ∧ (chf j).toInt ≤ 2) (hG : GS sf) : Met l yX12_onBits (.code yX12_onBits cX12_onBits 4 (some .int) :: wsL_law) ({ frames := 1, cells := 0, slots := 0, locals := 22 }) (va_Pc [.ref mm, .int p0] (fun U => va_P D vwCl [(mm, .inr (12, (.int i_thrown :: .ref m_s :: .ref m_spare :: .ref m_kept :: .ref m_undone :: .ref m_triedWay :: .ref m_isKept :: .int i_undoMany :: .ref m_tape :: .int i_length :: .int i_size :: .int i_p :: .int i_at :: .int i_token :: .int i_number :: .int i_letterMany :: .int i_fault :: .int i_faultAt :: .ref m_letters :: .int i_isKnown :: .ref m_choice :: .ref m_row :: .ref m_up :: .ref m_low :: .ref m_m :: .ref m_bestUp :: .ref m_bestLow :: .ref m_replyUp :: .ref m_replyLow :: .ref m_worthUp :: .ref m_worthLow :: .ref m_bestWay :: .int i_seed :: .ref m_told :: .int i_toldMany :: []))), (m_s, .inl (g 0, 193, .inl sf)), (m_choice, .inl (g 0, 12, .inl chf))] U.heap ∧ va_K D vwCl (TY g) U)) (vp_Si (fun r => (0 ≤ (r : Int32).toInt ∧ (r : Int32).toInt ≤ 4095) ∧ (∀ j : Nat, bt r j ↔ ON sf chf (p0 : Int32).toInt.toNat j))) 0 0 (fun _ => False) := by
  refine Met.ofW (cc := cX12_onBits) (maxL := 4) (ret := (some .int)) (by decide) rfl ?_
  intro p e s m args below meth c s₁ B hml hv
  obtain ⟨ha, hP, hK⟩ := hv
  have hx := B.exec
  have hb := B.bytes
  have hr := B.returns
  have hts0 := atoms_spec (ws := (.code yX12_onBits cX12_onBits 4 (some .int) :: wsL_law)) B.pre
  have hts : ∀ w ∈ wsL_law, w.before args s = true := fun w h => hts0 w (List.mem_cons_of_mem _ h)
  have hown : s.vm.findClass RX12 = some m.cls := findClass_of_methodNamed B.named
  have hlocks := B.notSynchronized
  have hP : va_P D vwCl [(mm, .inr (12, (.int i_thrown :: .ref m_s :: .ref m_spare :: .ref m_kept :: .ref m_undone :: .ref m_triedWay :: .ref m_isKept :: .int i_undoMany :: .ref m_tape :: .int i_length :: .int i_size :: .int i_p :: .int i_at :: .int i_token :: .int i_number :: .int i_letterMany :: .int i_fault :: .int i_faultAt :: .ref m_letters :: .int i_isKnown :: .ref m_choice :: .ref m_row :: .ref m_up :: .ref m_low :: .ref m_m :: .ref m_bestUp :: .ref m_bestLow :: .ref m_replyUp :: .ref m_replyLow :: .ref m_worthUp :: .ref m_worthLow :: .ref m_bestWay :: .int i_seed :: .ref m_told :: .int i_toldMany :: []))), (m_s, .inl (g 0, 193, .inl sf)), (m_choice, .inl (g 0, 12, .inl chf))] s.heap := hP
  refine W.eq (g2 := entryFrame m ([.ref mm, .int p0] : List Value).toArray 4) (by rw [ha]) ?_
  have hl := lv_entry ([.ref mm, .int p0]) (n := 4) (Nat.le_of_ble_eq_true rfl)
  rw [lg_entry_eq]
  generalize (lg_sl ([.ref mm, .int p0]) ++ List.replicate (4 - (lg_sl ([.ref mm, .int p0])).length) Slot.unset).toArray = ls at hl ⊢
  have hl : lv_has ls 4 [(0, .ref mm), (1, .int p0)] := hl
  refine lv_iconst (v := 0) hx hb dX12_onBits_0 (by decide) ?_
  refine lv_istore_n (lv' := [(2, .int 0), (0, .ref mm), (1, .int p0)]) hx hb dX12_onBits_1 rfl hl (by decide) rfl (fun ls hl => ?_)
  refine lv_iconst (v := 0) hx hb dX12_onBits_2 (by decide) ?_
  refine lv_istore_n (lv' := [(3, .int 0), (2, .int 0), (0, .ref mm), (1, .int p0)]) hx hb dX12_onBits_3 rfl hl (by decide) rfl (fun ls hl => ?_)
  have lp_7454 : ∀ (n_7454 : Nat) (x_7452 : Int32) (x_7453 : Int32) (ls : Array Slot), (0 ≤ (x_7452 : Int32).toInt ∧ (x_7452 : Int32).toInt ≤ 4095) → (0 ≤ (x_7453 : Int32).toInt ∧ (x_7453 : Int32).toInt ≤ 3) → (∀ j : Nat, bt x_7452 j ↔ ONi sf chf (p0 : Int32).toInt.toNat x_7453.toInt.toNat j) → (x_7453.toInt ≤ (sf (25 + (p0 : Int32).toInt.toNat)).toInt) → (3 - x_7453.toInt < (n_7454 : Int)) → lv_has ls 4 [(3, .int x_7453), (2, .int x_7452), (0, .ref mm), (1, .int p0)] → W p l e (headSpec (.code yX12_onBits cX12_onBits 4 (some .int) :: wsL_law) ({ frames := 1, cells := 0, slots := 0, locals := 22 })).room s m args below meth c s.heap [] 0 0 (MQ below (vp_Si (fun r => (0 ≤ (r : Int32).toInt ∧ (r : Int32).toInt ≤ 4095) ∧ (∀ j : Nat, bt r j ↔ ON sf chf (p0 : Int32).toInt.toNat j))) args s 0 0 (fun _ => False)) (F0 m 4 ls []) := by
    intro n_7454
    induction n_7454 with
    | zero =>
      intro x_7452 x_7453 ls h_x_7452 h_x_7453 hr7454_0 hr7454_1 hm_7454 hl
      exfalso; omega
    | succ n_7454 ih_7454 =>
      intro x_7452 x_7453 ls h_x_7452 h_x_7453 hr7454_0 hr7454_1 hm_7454 hl
      refine lv_iload_n hx hb dX12_onBits_4 rfl (lv_at hl 0 rfl) ?_
      refine lv_aload_n hx hb dX12_onBits_5 rfl (lv_at hl 2 rfl) ?_
      refine va_get (D := D) (ci := 12) (v := .ref m_s) (C := RX12) (T := TX12) (N := 35) hx hb hts inlX12 hown hK hP 0 rfl rfl 1 (by decide) (hts (Cond.fieldLink RX12 13 "ChanceRingsModel" "s" "[I") qw_73) (fun _ h9 => h9) rfl dX12_onBits_6 ?_
      refine lv_bipush (v := 25) hx hb dX12_onBits_9 (by decide) ?_
      refine lv_iload_n hx hb dX12_onBits_11 rfl (lv_at hl 3 rfl) ?_
      refine lv_iadd hx hb dX12_onBits_12 ?_
      refine lv_topi (fun v_7455 v_7455_e => ?_)
      have h_v_7455 : 25 ≤ (v_7455 : Int32).toInt ∧ (v_7455 : Int32).toInt ≤ 36 := by rw [v_7455_e]; exact tr_add (⟨by decide, by decide⟩ : 25 ≤ (25 : Int32).toInt ∧ (25 : Int32).toInt ≤ 25) h_p0 (by decide) (by decide) (by decide) (by decide)
      have q_v_7455 : v_7455.toInt = 25 + p0.toInt := by rw [v_7455_e]; exact (tr_addX (⟨by decide, by decide⟩ : 25 ≤ (25 : Int32).toInt ∧ (25 : Int32).toInt ≤ 25) h_p0 (by decide) (by decide)).trans (by rw [tk_25])
      refine va_iald hx hb hK hP 1 0 rfl rfl (tr_in h_v_7455 (by decide) (by decide)) dX12_onBits_13 ?_
      refine lv_topi (fun v_7456 v_7456_e => ?_)
      have h_v_7456 : 0 ≤ (v_7456 : Int32).toInt ∧ (v_7456 : Int32).toInt ≤ 3 := by rw [v_7456_e]; exact gr_ways hG.r (tr_w h_v_7455 (by decide) (by decide))
      have g_v_7456 : v_7456 = sf (25 + p0.toInt.toNat) := v_7456_e.trans (congrArg sf (by show Int.toNat _ = _; (first | (clear h_i_undoMany h_i_length h_i_size h_i_p h_i_at h_i_token h_i_number h_i_letterMany h_i_faultAt h_i_isKnown h_i_toldMany h_x_7452 h_x_7453; omega) | omega)))
      have gi_v_7456 := congrArg Int32.toInt g_v_7456
      refine lv_icmp_ge (tgt := 53) hx hb dX12_onBits_14 (by decide) (fun c_7457 => ?_) (fun c_7457 => ?_)
      · skip
        have c_7457_i := Int32.le_iff_toInt_le.mp c_7457
        refine lv_iload_n hx hb dX12_onBits_53 rfl (lv_at hl 1 rfl) ?_
        exact W.iret (v := x_7452) hx hb hr (fun t ht hW => ⟨x_7452, rfl, ⟨(tr_w h_x_7452 (by decide) (by decide)), (on_done hr7454_0 (by (first | (clear h_p0 h_i_undoMany h_i_length h_i_size h_i_p h_i_at h_i_token h_i_number h_i_letterMany h_i_faultAt h_i_isKnown h_i_toldMany h_x_7453 h_v_7455 q_v_7455 h_v_7456 g_v_7456 gi_v_7456 c_7457_i; omega) | omega)))⟩, ht⟩) (fun _ h => nomatch h) dX12_onBits_54
      · skip
        have c_7457_i := Int32.lt_iff_toInt_lt.mp (Int32.not_le.mp c_7457)
        have h_7458 : 0 ≤ (x_7453 : Int32).toInt ∧ (x_7453 : Int32).toInt ≤ 2 := nr_lt_l h_x_7453 h_v_7456 c_7457_i (by decide) (by decide)
        have h_7459 : 1 ≤ (v_7456 : Int32).toInt ∧ (v_7456 : Int32).toInt ≤ 3 := nr_lt_r h_x_7453 h_v_7456 c_7457_i (by decide) (by decide)
        refine lv_aload_n hx hb dX12_onBits_17 rfl (lv_at hl 2 rfl) ?_
        refine lv_iload_n hx hb dX12_onBits_18 rfl (lv_at hl 3 rfl) ?_
        refine lv_iconst (v := 3) hx hb dX12_onBits_19 (by decide) ?_
        have hPc := hP.sub (ws' := [(mm, .inr (12, (.int i_thrown :: .ref m_s :: .ref m_spare :: .ref m_kept :: .ref m_undone :: .ref m_triedWay :: .ref m_isKept :: .int i_undoMany :: .ref m_tape :: .int i_length :: .int i_size :: .int i_p :: .int i_at :: .int i_token :: .int i_number :: .int i_letterMany :: .int i_fault :: .int i_faultAt :: .ref m_letters :: .int i_isKnown :: .ref m_choice :: .ref m_row :: .ref m_up :: .ref m_low :: .ref m_m :: .ref m_bestUp :: .ref m_bestLow :: .ref m_replyUp :: .ref m_replyLow :: .ref m_worthUp :: .ref m_worthLow :: .ref m_bestWay :: .int i_seed :: .ref m_told :: .int i_toldMany :: []))), (m_s, .inl (g 0, 193, .inl sf))]) [0, 1] rfl
        refine vp_callSi (va_Run.run (va_runV (As := [.int p0, .int 3]) (rest := []) ⟨hx, hb, hml, hown, hts⟩ (c_X12_isKind l D g mm p0 3 i_thrown m_s m_spare m_kept m_undone m_triedWay m_isKept i_undoMany m_tape i_length i_size i_p i_at i_token i_number i_letterMany i_fault i_faultAt m_letters i_isKnown m_choice m_row m_up m_low m_m m_bestUp m_bestLow m_replyUp m_replyLow m_worthUp m_worthLow m_bestWay i_seed m_told i_toldMany sf (tr_w h_p0 (by decide) (by decide)) (tr_w h_i_undoMany (by decide) (by decide)) (tr_w h_i_length (by decide) (by decide)) (tr_w h_i_size (by decide) (by decide)) (tr_w h_i_p (by decide) (by decide)) (tr_w h_i_at (by decide) (by decide)) (tr_w h_i_token (by decide) (by decide)) (tr_w h_i_number (by decide) (by decide)) (tr_w h_i_letterMany (by decide) (by decide)) (tr_w h_i_faultAt (by decide) (by decide)) (tr_w h_i_isKnown (by decide) (by decide)) (tr_w h_i_toldMany (by decide) (by decide)) hG) (cwV 2 hts (tz_gV qw_94 qw_95 qw_96 qw_3 qw_97) rfl rfl rfl (by decide +kernel) ⟨Nat.le_of_ble_eq_true rfl, Nat.le_of_ble_eq_true rfl⟩) ⟨tz_blS, va_recv hK hPc (ci := 12) (q0 := 0) rfl rfl, tz_preS hPc hK⟩ rfl rfl hl.1 rfl (lv_room (Nat.le_of_ble_eq_true rfl)) dX12_onBits_20 ⟨Nat.le_of_ble_eq_true rfl, Nat.le_of_ble_eq_true rfl⟩)) (fun r_7460 hw => ?_)
        have kk_3 := tk_3
        have hw_7461 : 0 ≤ (r_7460 : Int32).toInt ∧ (r_7460 : Int32).toInt ≤ 1 := hw.1
        have hw_7461_p0 : Hide (¬ (r_7460 : Int32).toInt = 0 → (sf (1 + (p0 : Int32).toInt.toNat)).toInt = (3 : Int32).toInt) := hw.2.1
        have hw_7461_p1 : Hide ((r_7460 : Int32).toInt = 0 → ¬ (sf (1 + (p0 : Int32).toInt.toNat)).toInt = (3 : Int32).toInt) := hw.2.2
        refine lv_if_ne (tgt := 36) hx hb dX12_onBits_23 (by decide) (fun c_7462 => ?_) (fun c_7462 => ?_)
        · skip
          have kk_0 := tk_0
          have c_7462_i : ¬ (r_7460 : Int32).toInt = (0 : Int32).toInt := (fun q => c_7462 (Int32.toInt_inj.mp q))
          have hw_7461_p0_u := (hw_7461_p0).get (fun q => c_7462_i (q.trans tk_0.symm))
          have h_7463 : 1 ≤ (r_7460 : Int32).toInt ∧ (r_7460 : Int32).toInt ≤ 1 := nr_ne_l hw_7461 (⟨by decide, by decide⟩ : 0 ≤ (0 : Int32).toInt ∧ (0 : Int32).toInt ≤ 0) c_7462_i (by decide) (by decide)
          refine lv_iload_n hx hb dX12_onBits_36 rfl (lv_at hl 1 rfl) ?_
          refine lv_iconst (v := 1) hx hb dX12_onBits_37 (by decide) ?_
          refine lv_aload_n hx hb dX12_onBits_38 rfl (lv_at hl 2 rfl) ?_
          refine lv_iload_n hx hb dX12_onBits_39 rfl (lv_at hl 3 rfl) ?_
          refine lv_iload_n hx hb dX12_onBits_40 rfl (lv_at hl 0 rfl) ?_
          have hPc := hP.sub (ws' := [(mm, .inr (12, (.int i_thrown :: .ref m_s :: .ref m_spare :: .ref m_kept :: .ref m_undone :: .ref m_triedWay :: .ref m_isKept :: .int i_undoMany :: .ref m_tape :: .int i_length :: .int i_size :: .int i_p :: .int i_at :: .int i_token :: .int i_number :: .int i_letterMany :: .int i_fault :: .int i_faultAt :: .ref m_letters :: .int i_isKnown :: .ref m_choice :: .ref m_row :: .ref m_up :: .ref m_low :: .ref m_m :: .ref m_bestUp :: .ref m_bestLow :: .ref m_replyUp :: .ref m_replyLow :: .ref m_worthUp :: .ref m_worthLow :: .ref m_bestWay :: .int i_seed :: .ref m_told :: .int i_toldMany :: []))), (m_s, .inl (g 0, 193, .inl sf))]) [0, 1] rfl
          refine vp_callSi (va_Run.run (va_runV (As := [.int p0, .int x_7453]) (rest := [.int 1, .int x_7452]) ⟨hx, hb, hml, hown, hts⟩ (c_X12_to l D g mm p0 x_7453 i_thrown m_s m_spare m_kept m_undone m_triedWay m_isKept i_undoMany m_tape i_length i_size i_p i_at i_token i_number i_letterMany i_fault i_faultAt m_letters i_isKnown m_choice m_row m_up m_low m_m m_bestUp m_bestLow m_replyUp m_replyLow m_worthUp m_worthLow m_bestWay i_seed m_told i_toldMany sf (tr_w h_p0 (by decide) (by decide)) (tr_w h_7458 (by decide) (by decide)) (tr_w h_i_undoMany (by decide) (by decide)) (tr_w h_i_length (by decide) (by decide)) (tr_w h_i_size (by decide) (by decide)) (tr_w h_i_p (by decide) (by decide)) (tr_w h_i_at (by decide) (by decide)) (tr_w h_i_token (by decide) (by decide)) (tr_w h_i_number (by decide) (by decide)) (tr_w h_i_letterMany (by decide) (by decide)) (tr_w h_i_faultAt (by decide) (by decide)) (tr_w h_i_isKnown (by decide) (by decide)) (tr_w h_i_toldMany (by decide) (by decide)) hG) (cwV 2 hts (tz_gV qw_121 qw_122 qw_123 qw_3 qw_124) rfl rfl rfl (by decide +kernel) ⟨Nat.le_of_ble_eq_true rfl, Nat.le_of_ble_eq_true rfl⟩) ⟨tz_blS, va_recv hK hPc (ci := 12) (q0 := 0) rfl rfl, tz_preS hPc hK⟩ rfl rfl hl.1 rfl (lv_room (Nat.le_of_ble_eq_true rfl)) dX12_onBits_41 ⟨Nat.le_of_ble_eq_true rfl, Nat.le_of_ble_eq_true rfl⟩)) (fun r_7465 hw => ?_)
          have hw_7466 : 0 ≤ (r_7465 : Int32).toInt ∧ (r_7465 : Int32).toInt ≤ 11 := hw.1
          have hw_7466_p0 : (r_7465 : Int32) = sf (37 + 3 * (p0 : Int32).toInt.toNat + (x_7453 : Int32).toInt.toNat) := hw.2
          refine lv_ishl hx hb dX12_onBits_44 ?_
          refine lv_topi (fun v_7467 v_7467_e => ?_)
          have h_v_7467 : 0 ≤ (v_7467 : Int32).toInt ∧ (v_7467 : Int32).toInt ≤ 4095 := by rw [v_7467_e]; exact tr_shl12 (tr_w hw_7466 (by decide) (by decide))
          refine lv_ior hx hb dX12_onBits_45 ?_
          refine lv_topi (fun v_7468 v_7468_e => ?_)
          have h_v_7468 : 0 ≤ (v_7468 : Int32).toInt ∧ (v_7468 : Int32).toInt ≤ 4095 := by rw [v_7468_e]; exact (tr_or12 (tr_w h_x_7452 (by decide) (by decide)) (tr_w h_v_7467 (by decide) (by decide))).1
          have o_v_7468 : (x_7452 : Int32).toInt ≤ (v_7468 : Int32).toInt := by rw [v_7468_e]; exact (tr_or12 (tr_w h_x_7452 (by decide) (by decide)) (tr_w h_v_7467 (by decide) (by decide))).2
          refine lv_istore_n (lv' := [(2, .int v_7468), (3, .int x_7453), (0, .ref mm), (1, .int p0)]) hx hb dX12_onBits_46 rfl hl (by decide) rfl (fun ls hl => ?_)
          obtain ⟨v_7469, v_7469_e⟩ : ∃ y : Int32, y = x_7453 + Int32.ofInt 1 := ⟨_, rfl⟩
          have h_v_7469 : 1 ≤ (v_7469 : Int32).toInt ∧ (v_7469 : Int32).toInt ≤ 3 := by rw [v_7469_e]; exact tr_add h_7458 (⟨by decide, by decide⟩ : 1 ≤ (Int32.ofInt 1 : Int32).toInt ∧ (Int32.ofInt 1 : Int32).toInt ≤ 1) (by decide) (by decide) (by decide) (by decide)
          have q_v_7469 : v_7469.toInt = x_7453.toInt + 1 := by rw [v_7469_e]; exact tr_addE h_7458 (⟨by decide, by decide⟩ : 1 ≤ (Int32.ofInt 1 : Int32).toInt ∧ (Int32.ofInt 1 : Int32).toInt ≤ 1) (by decide) (by decide)
          refine lv_iinc (v := v_7469) (lv' := [(3, .int v_7469), (2, .int v_7468), (0, .ref mm), (1, .int p0)]) hx hb dX12_onBits_47 hl (k := 1) rfl v_7469_e.symm (by decide) rfl (fun ls hl => ?_)
          refine lv_goto (tgt := 4) hx hb dX12_onBits_50 (by decide) ?_
          exact ih_7454 v_7468 v_7469 ls (tr_w h_v_7468 (by decide) (by decide)) (tr_w h_v_7469 (by decide) (by decide)) (on_add (t := r_7465) hr7454_0 h_x_7452 hw_7466 v_7467_e v_7468_e (by have z3 := tk_3; (first | (clear h_i_undoMany h_i_length h_i_size h_i_p h_i_at h_i_token h_i_number h_i_letterMany h_i_faultAt h_i_isKnown h_i_toldMany hw_7461 c_7462_i h_7463 h_v_7467; omega) | omega)) hw_7466_p0 (by (first | (clear h_i_undoMany h_i_length h_i_size h_i_p h_i_at h_i_token h_i_number h_i_letterMany h_i_faultAt h_i_isKnown h_i_toldMany hw_7461 c_7462_i h_7463 h_v_7467; omega) | omega))) (by have z_0 := tk_0; have q9 := (hG.r.2.1 (p0 : Int32).toInt.toNat (by (first | (clear h_i_undoMany h_i_length h_i_size h_i_p h_i_at h_i_token h_i_number h_i_letterMany h_i_faultAt h_i_isKnown h_i_toldMany hw_7461 c_7462_i h_7463 h_v_7467; omega) | omega))).2.2.1; (first | (clear h_i_undoMany h_i_length h_i_size h_i_p h_i_at h_i_token h_i_number h_i_letterMany h_i_faultAt h_i_isKnown h_i_toldMany hw_7461 c_7462_i h_7463 h_v_7467; omega) | omega)) (by (first | (clear h_i_undoMany h_i_length h_i_size h_i_p h_i_at h_i_token h_i_number h_i_letterMany h_i_faultAt h_i_isKnown h_i_toldMany hw_7461 c_7462_i h_7463 h_v_7467; omega) | omega)) (lv_sub hl [0, 1, 2, 3] rfl)
        · skip
          have kk_0 := tk_0
          have c_7462_i : (r_7460 : Int32).toInt = (0 : Int32).toInt := congrArg Int32.toInt c_7462
          have hw_7461_p1_u := (hw_7461_p1).get (c_7462_i.trans tk_0)
          have h_7464 : 0 ≤ (r_7460 : Int32).toInt ∧ (r_7460 : Int32).toInt ≤ 0 := nr_eq_l hw_7461 (⟨by decide, by decide⟩ : 0 ≤ (0 : Int32).toInt ∧ (0 : Int32).toInt ≤ 0) c_7462_i (by decide) (by decide)
          refine lv_aload_n hx hb dX12_onBits_26 rfl (lv_at hl 2 rfl) ?_
          refine va_get (D := D) (ci := 12) (v := .ref m_choice) (C := RX12) (T := TX12) (N := 35) hx hb hts inlX12 hown hK hP 0 rfl rfl 20 (by decide) (hts (Cond.fieldLink RX12 40 "ChanceRingsModel" "choice" "[I") qw_125) (fun _ h9 => h9) rfl dX12_onBits_27 ?_
          refine lv_iload_n hx hb dX12_onBits_30 rfl (lv_at hl 3 rfl) ?_
          refine va_iald hx hb hK hP 2 0 rfl rfl (tr_in h_p0 (by decide) (by decide)) dX12_onBits_31 ?_
          refine lv_topi (fun v_7470 v_7470_e => ?_)
          have h_v_7470 : 0 ≤ (v_7470 : Int32).toInt ∧ (v_7470 : Int32).toInt ≤ 2 := by rw [v_7470_e]; exact h_chf _
          have g_v_7470 : v_7470 = chf (p0.toInt.toNat) := v_7470_e.trans (congrArg chf rfl)
          have gi_v_7470 := congrArg Int32.toInt g_v_7470
          refine lv_iload_n hx hb dX12_onBits_32 rfl (lv_at hl 0 rfl) ?_
          refine lv_icmp_ne (tgt := 47) hx hb dX12_onBits_33 (by decide) (fun c_7471 => ?_) (fun c_7471 => ?_)
          · skip
            have c_7471_i : ¬ (v_7470 : Int32).toInt = (x_7453 : Int32).toInt := (fun q => c_7471 (Int32.toInt_inj.mp q))
            obtain ⟨v_7472, v_7472_e⟩ : ∃ y : Int32, y = x_7453 + Int32.ofInt 1 := ⟨_, rfl⟩
            have h_v_7472 : 1 ≤ (v_7472 : Int32).toInt ∧ (v_7472 : Int32).toInt ≤ 3 := by rw [v_7472_e]; exact tr_add h_7458 (⟨by decide, by decide⟩ : 1 ≤ (Int32.ofInt 1 : Int32).toInt ∧ (Int32.ofInt 1 : Int32).toInt ≤ 1) (by decide) (by decide) (by decide) (by decide)
            have q_v_7472 : v_7472.toInt = x_7453.toInt + 1 := by rw [v_7472_e]; exact tr_addE h_7458 (⟨by decide, by decide⟩ : 1 ≤ (Int32.ofInt 1 : Int32).toInt ∧ (Int32.ofInt 1 : Int32).toInt ≤ 1) (by decide) (by decide)
            refine lv_iinc (v := v_7472) (lv' := [(3, .int v_7472), (2, .int x_7452), (0, .ref mm), (1, .int p0)]) hx hb dX12_onBits_47 hl (k := 0) rfl v_7472_e.symm (by decide) rfl (fun ls hl => ?_)
            refine lv_goto (tgt := 4) hx hb dX12_onBits_50 (by decide) ?_
            exact ih_7454 x_7452 v_7472 ls (tr_w h_x_7452 (by decide) (by decide)) (tr_w h_v_7472 (by decide) (by decide)) (on_skip hr7454_0 (by have z3 := tk_3; (first | (clear h_i_undoMany h_i_length h_i_size h_i_p h_i_at h_i_token h_i_number h_i_letterMany h_i_faultAt h_i_isKnown h_i_toldMany hw_7461 c_7462_i h_7464; omega) | omega)) (by (first | (clear h_i_undoMany h_i_length h_i_size h_i_p h_i_at h_i_token h_i_number h_i_letterMany h_i_faultAt h_i_isKnown h_i_toldMany hw_7461 c_7462_i h_7464; omega) | omega))) (by have z_0 := tk_0; have q9 := (hG.r.2.1 (p0 : Int32).toInt.toNat (by (first | (clear h_i_undoMany h_i_length h_i_size h_i_p h_i_at h_i_token h_i_number h_i_letterMany h_i_faultAt h_i_isKnown h_i_toldMany hw_7461 c_7462_i h_7464; omega) | omega))).2.2.1; (first | (clear h_i_undoMany h_i_length h_i_size h_i_p h_i_at h_i_token h_i_number h_i_letterMany h_i_faultAt h_i_isKnown h_i_toldMany hw_7461 c_7462_i h_7464; omega) | omega)) (by (first | (clear h_i_undoMany h_i_length h_i_size h_i_p h_i_at h_i_token h_i_number h_i_letterMany h_i_faultAt h_i_isKnown h_i_toldMany hw_7461 c_7462_i h_7464; omega) | omega)) (lv_sub hl [0, 1, 2, 3] rfl)
          · skip
            have c_7471_i : (v_7470 : Int32).toInt = (x_7453 : Int32).toInt := congrArg Int32.toInt c_7471
            refine lv_iload_n hx hb dX12_onBits_36 rfl (lv_at hl 1 rfl) ?_
            refine lv_iconst (v := 1) hx hb dX12_onBits_37 (by decide) ?_
            refine lv_aload_n hx hb dX12_onBits_38 rfl (lv_at hl 2 rfl) ?_
            refine lv_iload_n hx hb dX12_onBits_39 rfl (lv_at hl 3 rfl) ?_
            refine lv_iload_n hx hb dX12_onBits_40 rfl (lv_at hl 0 rfl) ?_
            have hPc := hP.sub (ws' := [(mm, .inr (12, (.int i_thrown :: .ref m_s :: .ref m_spare :: .ref m_kept :: .ref m_undone :: .ref m_triedWay :: .ref m_isKept :: .int i_undoMany :: .ref m_tape :: .int i_length :: .int i_size :: .int i_p :: .int i_at :: .int i_token :: .int i_number :: .int i_letterMany :: .int i_fault :: .int i_faultAt :: .ref m_letters :: .int i_isKnown :: .ref m_choice :: .ref m_row :: .ref m_up :: .ref m_low :: .ref m_m :: .ref m_bestUp :: .ref m_bestLow :: .ref m_replyUp :: .ref m_replyLow :: .ref m_worthUp :: .ref m_worthLow :: .ref m_bestWay :: .int i_seed :: .ref m_told :: .int i_toldMany :: []))), (m_s, .inl (g 0, 193, .inl sf))]) [0, 1] rfl
            refine vp_callSi (va_Run.run (va_runV (As := [.int p0, .int x_7453]) (rest := [.int 1, .int x_7452]) ⟨hx, hb, hml, hown, hts⟩ (c_X12_to l D g mm p0 x_7453 i_thrown m_s m_spare m_kept m_undone m_triedWay m_isKept i_undoMany m_tape i_length i_size i_p i_at i_token i_number i_letterMany i_fault i_faultAt m_letters i_isKnown m_choice m_row m_up m_low m_m m_bestUp m_bestLow m_replyUp m_replyLow m_worthUp m_worthLow m_bestWay i_seed m_told i_toldMany sf (tr_w h_p0 (by decide) (by decide)) (tr_w h_7458 (by decide) (by decide)) (tr_w h_i_undoMany (by decide) (by decide)) (tr_w h_i_length (by decide) (by decide)) (tr_w h_i_size (by decide) (by decide)) (tr_w h_i_p (by decide) (by decide)) (tr_w h_i_at (by decide) (by decide)) (tr_w h_i_token (by decide) (by decide)) (tr_w h_i_number (by decide) (by decide)) (tr_w h_i_letterMany (by decide) (by decide)) (tr_w h_i_faultAt (by decide) (by decide)) (tr_w h_i_isKnown (by decide) (by decide)) (tr_w h_i_toldMany (by decide) (by decide)) hG) (cwV 2 hts (tz_gV qw_121 qw_122 qw_123 qw_3 qw_124) rfl rfl rfl (by decide +kernel) ⟨Nat.le_of_ble_eq_true rfl, Nat.le_of_ble_eq_true rfl⟩) ⟨tz_blS, va_recv hK hPc (ci := 12) (q0 := 0) rfl rfl, tz_preS hPc hK⟩ rfl rfl hl.1 rfl (lv_room (Nat.le_of_ble_eq_true rfl)) dX12_onBits_41 ⟨Nat.le_of_ble_eq_true rfl, Nat.le_of_ble_eq_true rfl⟩)) (fun r_7473 hw => ?_)
            have hw_7474 : 0 ≤ (r_7473 : Int32).toInt ∧ (r_7473 : Int32).toInt ≤ 11 := hw.1
            have hw_7474_p0 : (r_7473 : Int32) = sf (37 + 3 * (p0 : Int32).toInt.toNat + (x_7453 : Int32).toInt.toNat) := hw.2
            refine lv_ishl hx hb dX12_onBits_44 ?_
            refine lv_topi (fun v_7475 v_7475_e => ?_)
            have h_v_7475 : 0 ≤ (v_7475 : Int32).toInt ∧ (v_7475 : Int32).toInt ≤ 4095 := by rw [v_7475_e]; exact tr_shl12 (tr_w hw_7474 (by decide) (by decide))
            refine lv_ior hx hb dX12_onBits_45 ?_
            refine lv_topi (fun v_7476 v_7476_e => ?_)
            have h_v_7476 : 0 ≤ (v_7476 : Int32).toInt ∧ (v_7476 : Int32).toInt ≤ 4095 := by rw [v_7476_e]; exact (tr_or12 (tr_w h_x_7452 (by decide) (by decide)) (tr_w h_v_7475 (by decide) (by decide))).1
            have o_v_7476 : (x_7452 : Int32).toInt ≤ (v_7476 : Int32).toInt := by rw [v_7476_e]; exact (tr_or12 (tr_w h_x_7452 (by decide) (by decide)) (tr_w h_v_7475 (by decide) (by decide))).2
            refine lv_istore_n (lv' := [(2, .int v_7476), (3, .int x_7453), (0, .ref mm), (1, .int p0)]) hx hb dX12_onBits_46 rfl hl (by decide) rfl (fun ls hl => ?_)
            obtain ⟨v_7477, v_7477_e⟩ : ∃ y : Int32, y = x_7453 + Int32.ofInt 1 := ⟨_, rfl⟩
            have h_v_7477 : 1 ≤ (v_7477 : Int32).toInt ∧ (v_7477 : Int32).toInt ≤ 3 := by rw [v_7477_e]; exact tr_add h_7458 (⟨by decide, by decide⟩ : 1 ≤ (Int32.ofInt 1 : Int32).toInt ∧ (Int32.ofInt 1 : Int32).toInt ≤ 1) (by decide) (by decide) (by decide) (by decide)
            have q_v_7477 : v_7477.toInt = x_7453.toInt + 1 := by rw [v_7477_e]; exact tr_addE h_7458 (⟨by decide, by decide⟩ : 1 ≤ (Int32.ofInt 1 : Int32).toInt ∧ (Int32.ofInt 1 : Int32).toInt ≤ 1) (by decide) (by decide)
            refine lv_iinc (v := v_7477) (lv' := [(3, .int v_7477), (2, .int v_7476), (0, .ref mm), (1, .int p0)]) hx hb dX12_onBits_47 hl (k := 1) rfl v_7477_e.symm (by decide) rfl (fun ls hl => ?_)
            refine lv_goto (tgt := 4) hx hb dX12_onBits_50 (by decide) ?_
            exact ih_7454 v_7476 v_7477 ls (tr_w h_v_7476 (by decide) (by decide)) (tr_w h_v_7477 (by decide) (by decide)) (on_add (t := r_7473) hr7454_0 h_x_7452 hw_7474 v_7475_e v_7476_e (by have z3 := tk_3; (first | (clear h_i_undoMany h_i_length h_i_size h_i_p h_i_at h_i_token h_i_number h_i_letterMany h_i_faultAt h_i_isKnown h_i_toldMany hw_7461 c_7462_i h_7464 h_v_7475; omega) | omega)) hw_7474_p0 (by (first | (clear h_i_undoMany h_i_length h_i_size h_i_p h_i_at h_i_token h_i_number h_i_letterMany h_i_faultAt h_i_isKnown h_i_toldMany hw_7461 c_7462_i h_7464 h_v_7475; omega) | omega))) (by have z_0 := tk_0; have q9 := (hG.r.2.1 (p0 : Int32).toInt.toNat (by (first | (clear h_i_undoMany h_i_length h_i_size h_i_p h_i_at h_i_token h_i_number h_i_letterMany h_i_faultAt h_i_isKnown h_i_toldMany hw_7461 c_7462_i h_7464 h_v_7475; omega) | omega))).2.2.1; (first | (clear h_i_undoMany h_i_length h_i_size h_i_p h_i_at h_i_token h_i_number h_i_letterMany h_i_faultAt h_i_isKnown h_i_toldMany hw_7461 c_7462_i h_7464 h_v_7475; omega) | omega)) (by (first | (clear h_i_undoMany h_i_length h_i_size h_i_p h_i_at h_i_token h_i_number h_i_letterMany h_i_faultAt h_i_isKnown h_i_toldMany hw_7461 c_7462_i h_7464 h_v_7475; omega) | omega)) (lv_sub hl [0, 1, 2, 3] rfl)
  exact lp_7454 4 0 0 ls (⟨by decide, by decide⟩ : 0 ≤ (0 : Int32).toInt ∧ (0 : Int32).toInt ≤ 4095) (⟨by decide, by decide⟩ : 0 ≤ (0 : Int32).toInt ∧ (0 : Int32).toInt ≤ 3) on_zero (by have z_0 := tk_0; have q9 := (hG.r.2.1 (p0 : Int32).toInt.toNat (by (first | (clear h_i_undoMany h_i_length h_i_size h_i_p h_i_at h_i_token h_i_number h_i_letterMany h_i_faultAt h_i_isKnown h_i_toldMany; omega) | omega))).2.2.1; (first | (clear h_i_undoMany h_i_length h_i_size h_i_p h_i_at h_i_token h_i_number h_i_letterMany h_i_faultAt h_i_isKnown h_i_toldMany; omega) | omega)) (by decide) (lv_sub hl [0, 1, 2, 3] rfl)
set_option maxHeartbeats 4000000 in
set_option maxRecDepth 100000 in
theorem c_X12_ends (l : Launch) (D : va_G) (g : Nat → ClassId) (mm : Nat) (i_thrown : Int32) (m_s : Nat) (m_spare : Nat) (m_kept : Nat) (m_undone : Nat) (m_triedWay : Nat) (m_isKept : Nat) (i_undoMany : Int32) (m_tape : Nat) (i_length : Int32) (i_size : Int32) (i_p : Int32) (i_at : Int32) (i_token : Int32) (i_number : Int32) (i_letterMany : Int32) (i_fault : Int32) (i_faultAt : Int32) (m_letters : Nat) (i_isKnown : Int32) (m_choice : Nat) (m_row : Nat) (m_up : Nat) (m_low : Nat) (m_m : Nat) (m_bestUp : Nat) (m_bestLow : Nat) (m_replyUp : Nat) (m_replyLow : Nat) (m_worthUp : Nat) (m_worthLow : Nat) (m_bestWay : Nat) (i_seed : Int32) (m_told : Nat) (i_toldMany : Int32) (sf : Nat → Int32) (h_i_undoMany : 0 ≤ (i_undoMany : Int32).toInt ∧ (i_undoMany : Int32).toInt ≤ 8) (h_i_length : 0 ≤ (i_length : Int32).toInt ∧ (i_length : Int32).toInt ≤ 440) (h_i_size : 0 ≤ (i_size : Int32).toInt ∧ (i_size : Int32).toInt ≤ 440) (h_i_p : 0 ≤ (i_p : Int32).toInt ∧ (i_p : Int32).toInt ≤ 440) (h_i_at : 0 ≤ (i_at : Int32).toInt ∧ (i_at : Int32).toInt ≤ 440) (h_i_token : 0 ≤ (i_token : Int32).toInt ∧ (i_token : Int32).toInt ≤ 4) (h_i_number : 0 ≤ (i_number : Int32).toInt ∧ (i_number : Int32).toInt ≤ 814) (h_i_letterMany : (-440) ≤ (i_letterMany : Int32).toInt ∧ (i_letterMany : Int32).toInt ≤ 440) (h_i_faultAt : 0 ≤ (i_faultAt : Int32).toInt ∧ (i_faultAt : Int32).toInt ≤ 440) (h_i_isKnown : 0 ≤ (i_isKnown : Int32).toInt ∧ (i_isKnown : Int32).toInt ≤ 1) (h_i_toldMany : 0 ≤ (i_toldMany : Int32).toInt ∧ (i_toldMany : Int32).toInt ≤ 900) (hG : GS sf) : Met l yX12_ends (.code yX12_ends cX12_ends 3 (some .int) :: wsL_law) ({ frames := 1, cells := 0, slots := 0, locals := 22 }) (va_Pc [.ref mm] (fun U => va_P D vwCl [(mm, .inr (12, (.int i_thrown :: .ref m_s :: .ref m_spare :: .ref m_kept :: .ref m_undone :: .ref m_triedWay :: .ref m_isKept :: .int i_undoMany :: .ref m_tape :: .int i_length :: .int i_size :: .int i_p :: .int i_at :: .int i_token :: .int i_number :: .int i_letterMany :: .int i_fault :: .int i_faultAt :: .ref m_letters :: .int i_isKnown :: .ref m_choice :: .ref m_row :: .ref m_up :: .ref m_low :: .ref m_m :: .ref m_bestUp :: .ref m_bestLow :: .ref m_replyUp :: .ref m_replyLow :: .ref m_worthUp :: .ref m_worthLow :: .ref m_bestWay :: .int i_seed :: .ref m_told :: .int i_toldMany :: []))), (m_s, .inl (g 0, 193, .inl sf))] U.heap ∧ va_K D vwCl (TY g) U)) (vp_Si (fun r => (0 ≤ (r : Int32).toInt ∧ (r : Int32).toInt ≤ 4095) ∧ (∀ j : Nat, bt r j ↔ (j < (sf 0).toInt.toNat ∧ (sf (1 + j)).toInt = 0)))) 0 0 (fun _ => False) := by
  refine Met.ofW (cc := cX12_ends) (maxL := 3) (ret := (some .int)) (by decide) rfl ?_
  intro p e s m args below meth c s₁ B hml hv
  obtain ⟨ha, hP, hK⟩ := hv
  have hx := B.exec
  have hb := B.bytes
  have hr := B.returns
  have hts0 := atoms_spec (ws := (.code yX12_ends cX12_ends 3 (some .int) :: wsL_law)) B.pre
  have hts : ∀ w ∈ wsL_law, w.before args s = true := fun w h => hts0 w (List.mem_cons_of_mem _ h)
  have hown : s.vm.findClass RX12 = some m.cls := findClass_of_methodNamed B.named
  have hlocks := B.notSynchronized
  have hP : va_P D vwCl [(mm, .inr (12, (.int i_thrown :: .ref m_s :: .ref m_spare :: .ref m_kept :: .ref m_undone :: .ref m_triedWay :: .ref m_isKept :: .int i_undoMany :: .ref m_tape :: .int i_length :: .int i_size :: .int i_p :: .int i_at :: .int i_token :: .int i_number :: .int i_letterMany :: .int i_fault :: .int i_faultAt :: .ref m_letters :: .int i_isKnown :: .ref m_choice :: .ref m_row :: .ref m_up :: .ref m_low :: .ref m_m :: .ref m_bestUp :: .ref m_bestLow :: .ref m_replyUp :: .ref m_replyLow :: .ref m_worthUp :: .ref m_worthLow :: .ref m_bestWay :: .int i_seed :: .ref m_told :: .int i_toldMany :: []))), (m_s, .inl (g 0, 193, .inl sf))] s.heap := hP
  refine W.eq (g2 := entryFrame m ([.ref mm] : List Value).toArray 3) (by rw [ha]) ?_
  have hl := lv_entry ([.ref mm]) (n := 3) (Nat.le_of_ble_eq_true rfl)
  rw [lg_entry_eq]
  generalize (lg_sl ([.ref mm]) ++ List.replicate (3 - (lg_sl ([.ref mm])).length) Slot.unset).toArray = ls at hl ⊢
  have hl : lv_has ls 3 [(0, .ref mm)] := hl
  have gn9 := hG.r.1
  refine lv_iconst (v := 0) hx hb dX12_ends_0 (by decide) ?_
  refine lv_istore_n (lv' := [(1, .int 0), (0, .ref mm)]) hx hb dX12_ends_1 rfl hl (by decide) rfl (fun ls hl => ?_)
  refine lv_iconst (v := 0) hx hb dX12_ends_2 (by decide) ?_
  refine lv_istore_n (lv' := [(2, .int 0), (1, .int 0), (0, .ref mm)]) hx hb dX12_ends_3 rfl hl (by decide) rfl (fun ls hl => ?_)
  have lp_7496 : ∀ (n_7496 : Nat) (x_7494 : Int32) (x_7495 : Int32) (ls : Array Slot), (0 ≤ (x_7494 : Int32).toInt ∧ (x_7494 : Int32).toInt ≤ 4095) → (0 ≤ (x_7495 : Int32).toInt ∧ (x_7495 : Int32).toInt ≤ 12) → (∀ j : Nat, bt x_7494 j ↔ (j < x_7495.toInt.toNat ∧ (sf (1 + j)).toInt = 0)) → (x_7495.toInt ≤ (sf 0).toInt) → (12 - x_7495.toInt < (n_7496 : Int)) → lv_has ls 3 [(2, .int x_7495), (1, .int x_7494), (0, .ref mm)] → W p l e (headSpec (.code yX12_ends cX12_ends 3 (some .int) :: wsL_law) ({ frames := 1, cells := 0, slots := 0, locals := 22 })).room s m args below meth c s.heap [] 0 0 (MQ below (vp_Si (fun r => (0 ≤ (r : Int32).toInt ∧ (r : Int32).toInt ≤ 4095) ∧ (∀ j : Nat, bt r j ↔ (j < (sf 0).toInt.toNat ∧ (sf (1 + j)).toInt = 0)))) args s 0 0 (fun _ => False)) (F0 m 4 ls []) := by
    intro n_7496
    induction n_7496 with
    | zero =>
      intro x_7494 x_7495 ls h_x_7494 h_x_7495 hr7496_0 hr7496_1 hm_7496 hl
      exfalso; omega
    | succ n_7496 ih_7496 =>
      intro x_7494 x_7495 ls h_x_7494 h_x_7495 hr7496_0 hr7496_1 hm_7496 hl
      refine lv_iload_n hx hb dX12_ends_4 rfl (lv_at hl 0 rfl) ?_
      refine lv_aload_n hx hb dX12_ends_5 rfl (lv_at hl 2 rfl) ?_
      refine va_get (D := D) (ci := 12) (v := .ref m_s) (C := RX12) (T := TX12) (N := 35) hx hb hts inlX12 hown hK hP 0 rfl rfl 1 (by decide) (hts (Cond.fieldLink RX12 13 "ChanceRingsModel" "s" "[I") qw_73) (fun _ h9 => h9) rfl dX12_ends_6 ?_
      refine lv_iconst (v := 0) hx hb dX12_ends_9 (by decide) ?_
      refine va_iald hx hb hK hP 1 0 rfl rfl (tz_in (by decide +kernel)) dX12_ends_10 ?_
      refine lv_topi (fun v_7497 v_7497_e => ?_)
      have h_v_7497 : 0 ≤ (v_7497 : Int32).toInt ∧ (v_7497 : Int32).toInt ≤ 12 := by rw [v_7497_e]; exact gr_nodes hG.r (⟨by decide, by decide⟩ : 0 ≤ (0 : Int32).toInt ∧ (0 : Int32).toInt ≤ 0)
      have g_v_7497 : v_7497 = sf (0) := v_7497_e.trans (congrArg sf rfl)
      have gi_v_7497 := congrArg Int32.toInt g_v_7497
      refine lv_icmp_ge (tgt := 39) hx hb dX12_ends_11 (by decide) (fun c_7498 => ?_) (fun c_7498 => ?_)
      · skip
        have c_7498_i := Int32.le_iff_toInt_le.mp c_7498
        refine lv_iload_n hx hb dX12_ends_39 rfl (lv_at hl 1 rfl) ?_
        exact W.iret (v := x_7494) hx hb hr (fun t ht hW => ⟨x_7494, rfl, ⟨(tr_w h_x_7494 (by decide) (by decide)), (fun j => by rw [hr7496_0 j, show x_7495.toInt.toNat = (sf 0).toInt.toNat by (first | (clear h_i_undoMany h_i_length h_i_size h_i_p h_i_at h_i_token h_i_number h_i_letterMany h_i_faultAt h_i_isKnown h_i_toldMany; omega) | omega)])⟩, ht⟩) (fun _ h => nomatch h) dX12_ends_40
      · skip
        have c_7498_i := Int32.lt_iff_toInt_lt.mp (Int32.not_le.mp c_7498)
        have h_7499 : 0 ≤ (x_7495 : Int32).toInt ∧ (x_7495 : Int32).toInt ≤ 11 := nr_lt_l h_x_7495 h_v_7497 c_7498_i (by decide) (by decide)
        have h_7500 : 1 ≤ (v_7497 : Int32).toInt ∧ (v_7497 : Int32).toInt ≤ 12 := nr_lt_r h_x_7495 h_v_7497 c_7498_i (by decide) (by decide)
        refine lv_iload_n hx hb dX12_ends_14 rfl (lv_at hl 1 rfl) ?_
        refine lv_aload_n hx hb dX12_ends_15 rfl (lv_at hl 2 rfl) ?_
        refine lv_iload_n hx hb dX12_ends_16 rfl (lv_at hl 0 rfl) ?_
        refine lv_iconst (v := 0) hx hb dX12_ends_17 (by decide) ?_
        have hPc := hP.sub (ws' := [(mm, .inr (12, (.int i_thrown :: .ref m_s :: .ref m_spare :: .ref m_kept :: .ref m_undone :: .ref m_triedWay :: .ref m_isKept :: .int i_undoMany :: .ref m_tape :: .int i_length :: .int i_size :: .int i_p :: .int i_at :: .int i_token :: .int i_number :: .int i_letterMany :: .int i_fault :: .int i_faultAt :: .ref m_letters :: .int i_isKnown :: .ref m_choice :: .ref m_row :: .ref m_up :: .ref m_low :: .ref m_m :: .ref m_bestUp :: .ref m_bestLow :: .ref m_replyUp :: .ref m_replyLow :: .ref m_worthUp :: .ref m_worthLow :: .ref m_bestWay :: .int i_seed :: .ref m_told :: .int i_toldMany :: []))), (m_s, .inl (g 0, 193, .inl sf))]) [0, 1] rfl
        refine vp_callSi (va_Run.run (va_runV (As := [.int x_7495, .int 0]) (rest := [.int x_7494]) ⟨hx, hb, hml, hown, hts⟩ (c_X12_isKind l D g mm x_7495 0 i_thrown m_s m_spare m_kept m_undone m_triedWay m_isKept i_undoMany m_tape i_length i_size i_p i_at i_token i_number i_letterMany i_fault i_faultAt m_letters i_isKnown m_choice m_row m_up m_low m_m m_bestUp m_bestLow m_replyUp m_replyLow m_worthUp m_worthLow m_bestWay i_seed m_told i_toldMany sf (tr_w h_7499 (by decide) (by decide)) (tr_w h_i_undoMany (by decide) (by decide)) (tr_w h_i_length (by decide) (by decide)) (tr_w h_i_size (by decide) (by decide)) (tr_w h_i_p (by decide) (by decide)) (tr_w h_i_at (by decide) (by decide)) (tr_w h_i_token (by decide) (by decide)) (tr_w h_i_number (by decide) (by decide)) (tr_w h_i_letterMany (by decide) (by decide)) (tr_w h_i_faultAt (by decide) (by decide)) (tr_w h_i_isKnown (by decide) (by decide)) (tr_w h_i_toldMany (by decide) (by decide)) hG) (cwV 2 hts (tz_gV qw_94 qw_95 qw_96 qw_3 qw_97) rfl rfl rfl (by decide +kernel) ⟨Nat.le_of_ble_eq_true rfl, Nat.le_of_ble_eq_true rfl⟩) ⟨tz_blS, va_recv hK hPc (ci := 12) (q0 := 0) rfl rfl, tz_preS hPc hK⟩ rfl rfl hl.1 rfl (lv_room (Nat.le_of_ble_eq_true rfl)) dX12_ends_18 ⟨Nat.le_of_ble_eq_true rfl, Nat.le_of_ble_eq_true rfl⟩)) (fun r_7501 hw => ?_)
        have kk_0 := tk_0
        have hw_7502 : 0 ≤ (r_7501 : Int32).toInt ∧ (r_7501 : Int32).toInt ≤ 1 := hw.1
        have hw_7502_p0 : Hide (¬ (r_7501 : Int32).toInt = 0 → (sf (1 + (x_7495 : Int32).toInt.toNat)).toInt = (0 : Int32).toInt) := hw.2.1
        have hw_7502_p1 : Hide ((r_7501 : Int32).toInt = 0 → ¬ (sf (1 + (x_7495 : Int32).toInt.toNat)).toInt = (0 : Int32).toInt) := hw.2.2
        refine lv_if_eq (tgt := 30) hx hb dX12_ends_21 (by decide) (fun c_7503 => ?_) (fun c_7503 => ?_)
        · skip
          have c_7503_i : (r_7501 : Int32).toInt = (0 : Int32).toInt := congrArg Int32.toInt c_7503
          have hw_7502_p1_u := (hw_7502_p1).get (c_7503_i.trans tk_0)
          have h_7504 : 0 ≤ (r_7501 : Int32).toInt ∧ (r_7501 : Int32).toInt ≤ 0 := nr_eq_l hw_7502 (⟨by decide, by decide⟩ : 0 ≤ (0 : Int32).toInt ∧ (0 : Int32).toInt ≤ 0) c_7503_i (by decide) (by decide)
          refine lv_iconst (v := 0) hx hb dX12_ends_30 (by decide) ?_
          refine lv_ior hx hb dX12_ends_31 ?_
          refine lv_topi (fun v_7506 v_7506_e => ?_)
          have h_v_7506 : 0 ≤ (v_7506 : Int32).toInt ∧ (v_7506 : Int32).toInt ≤ 4095 := by rw [v_7506_e]; exact (tr_or12 (tr_w h_x_7494 (by decide) (by decide)) (⟨by decide, by decide⟩ : 0 ≤ (0 : Int32).toInt ∧ (0 : Int32).toInt ≤ 4095)).1
          have o_v_7506 : (x_7494 : Int32).toInt ≤ (v_7506 : Int32).toInt := by rw [v_7506_e]; exact (tr_or12 (tr_w h_x_7494 (by decide) (by decide)) (⟨by decide, by decide⟩ : 0 ≤ (0 : Int32).toInt ∧ (0 : Int32).toInt ≤ 4095)).2
          refine lv_istore_n (lv' := [(1, .int v_7506), (2, .int x_7495), (0, .ref mm)]) hx hb dX12_ends_32 rfl hl (by decide) rfl (fun ls hl => ?_)
          obtain ⟨v_7507, v_7507_e⟩ : ∃ y : Int32, y = x_7495 + Int32.ofInt 1 := ⟨_, rfl⟩
          have h_v_7507 : 1 ≤ (v_7507 : Int32).toInt ∧ (v_7507 : Int32).toInt ≤ 12 := by rw [v_7507_e]; exact tr_add h_7499 (⟨by decide, by decide⟩ : 1 ≤ (Int32.ofInt 1 : Int32).toInt ∧ (Int32.ofInt 1 : Int32).toInt ≤ 1) (by decide) (by decide) (by decide) (by decide)
          have q_v_7507 : v_7507.toInt = x_7495.toInt + 1 := by rw [v_7507_e]; exact tr_addE h_7499 (⟨by decide, by decide⟩ : 1 ≤ (Int32.ofInt 1 : Int32).toInt ∧ (Int32.ofInt 1 : Int32).toInt ≤ 1) (by decide) (by decide)
          refine lv_iinc (v := v_7507) (lv' := [(2, .int v_7507), (1, .int v_7506), (0, .ref mm)]) hx hb dX12_ends_33 hl (k := 1) rfl v_7507_e.symm (by decide) rfl (fun ls hl => ?_)
          refine lv_goto (tgt := 4) hx hb dX12_ends_36 (by decide) ?_
          exact ih_7496 v_7506 v_7507 ls (tr_w h_v_7506 (by decide) (by decide)) (tr_w h_v_7507 (by decide) (by decide)) (en_skip hr7496_0 v_7506_e (by have z_0 := tk_0; (first | (clear h_i_undoMany h_i_length h_i_size h_i_p h_i_at h_i_token h_i_number h_i_letterMany h_i_faultAt h_i_isKnown h_i_toldMany h_x_7494 hw_7502 c_7503_i h_7504; omega) | omega)) (by (first | (clear h_i_undoMany h_i_length h_i_size h_i_p h_i_at h_i_token h_i_number h_i_letterMany h_i_faultAt h_i_isKnown h_i_toldMany h_x_7494 hw_7502 c_7503_i h_7504; omega) | omega))) (by have z_0 := tk_0; (first | (clear h_i_undoMany h_i_length h_i_size h_i_p h_i_at h_i_token h_i_number h_i_letterMany h_i_faultAt h_i_isKnown h_i_toldMany h_x_7494 hw_7502 c_7503_i h_7504; omega) | omega)) (by (first | (clear h_i_undoMany h_i_length h_i_size h_i_p h_i_at h_i_token h_i_number h_i_letterMany h_i_faultAt h_i_isKnown h_i_toldMany h_x_7494 hw_7502 c_7503_i h_7504; omega) | omega)) (lv_sub hl [0, 1, 2] rfl)
        · skip
          have c_7503_i : ¬ (r_7501 : Int32).toInt = (0 : Int32).toInt := (fun q => c_7503 (Int32.toInt_inj.mp q))
          have hw_7502_p0_u := (hw_7502_p0).get (fun q => c_7503_i (q.trans tk_0.symm))
          have h_7505 : 1 ≤ (r_7501 : Int32).toInt ∧ (r_7501 : Int32).toInt ≤ 1 := nr_ne_l hw_7502 (⟨by decide, by decide⟩ : 0 ≤ (0 : Int32).toInt ∧ (0 : Int32).toInt ≤ 0) c_7503_i (by decide) (by decide)
          refine lv_iconst (v := 1) hx hb dX12_ends_24 (by decide) ?_
          refine lv_iload_n hx hb dX12_ends_25 rfl (lv_at hl 0 rfl) ?_
          refine lv_ishl hx hb dX12_ends_26 ?_
          refine lv_topi (fun v_7508 v_7508_e => ?_)
          have h_v_7508 : 0 ≤ (v_7508 : Int32).toInt ∧ (v_7508 : Int32).toInt ≤ 4095 := by rw [v_7508_e]; exact tr_shl12 (tr_w h_7499 (by decide) (by decide))
          refine lv_goto (tgt := 31) hx hb dX12_ends_27 (by decide) ?_
          refine lv_ior hx hb dX12_ends_31 ?_
          refine lv_topi (fun v_7509 v_7509_e => ?_)
          have h_v_7509 : 0 ≤ (v_7509 : Int32).toInt ∧ (v_7509 : Int32).toInt ≤ 4095 := by rw [v_7509_e]; exact (tr_or12 (tr_w h_x_7494 (by decide) (by decide)) (tr_w h_v_7508 (by decide) (by decide))).1
          have o_v_7509 : (x_7494 : Int32).toInt ≤ (v_7509 : Int32).toInt := by rw [v_7509_e]; exact (tr_or12 (tr_w h_x_7494 (by decide) (by decide)) (tr_w h_v_7508 (by decide) (by decide))).2
          refine lv_istore_n (lv' := [(1, .int v_7509), (2, .int x_7495), (0, .ref mm)]) hx hb dX12_ends_32 rfl hl (by decide) rfl (fun ls hl => ?_)
          obtain ⟨v_7510, v_7510_e⟩ : ∃ y : Int32, y = x_7495 + Int32.ofInt 1 := ⟨_, rfl⟩
          have h_v_7510 : 1 ≤ (v_7510 : Int32).toInt ∧ (v_7510 : Int32).toInt ≤ 12 := by rw [v_7510_e]; exact tr_add h_7499 (⟨by decide, by decide⟩ : 1 ≤ (Int32.ofInt 1 : Int32).toInt ∧ (Int32.ofInt 1 : Int32).toInt ≤ 1) (by decide) (by decide) (by decide) (by decide)
          have q_v_7510 : v_7510.toInt = x_7495.toInt + 1 := by rw [v_7510_e]; exact tr_addE h_7499 (⟨by decide, by decide⟩ : 1 ≤ (Int32.ofInt 1 : Int32).toInt ∧ (Int32.ofInt 1 : Int32).toInt ≤ 1) (by decide) (by decide)
          refine lv_iinc (v := v_7510) (lv' := [(2, .int v_7510), (1, .int v_7509), (0, .ref mm)]) hx hb dX12_ends_33 hl (k := 1) rfl v_7510_e.symm (by decide) rfl (fun ls hl => ?_)
          refine lv_goto (tgt := 4) hx hb dX12_ends_36 (by decide) ?_
          exact ih_7496 v_7509 v_7510 ls (tr_w h_v_7509 (by decide) (by decide)) (tr_w h_v_7510 (by decide) (by decide)) (en_add (t := x_7495) hr7496_0 h_x_7494 h_7499 v_7508_e v_7509_e (by (first | (clear h_i_undoMany h_i_length h_i_size h_i_p h_i_at h_i_token h_i_number h_i_letterMany h_i_faultAt h_i_isKnown h_i_toldMany hw_7502 c_7503_i h_7505 h_v_7508; omega) | omega)) (by have z_0 := tk_0; (first | (clear h_i_undoMany h_i_length h_i_size h_i_p h_i_at h_i_token h_i_number h_i_letterMany h_i_faultAt h_i_isKnown h_i_toldMany hw_7502 c_7503_i h_7505 h_v_7508; omega) | omega)) (by (first | (clear h_i_undoMany h_i_length h_i_size h_i_p h_i_at h_i_token h_i_number h_i_letterMany h_i_faultAt h_i_isKnown h_i_toldMany hw_7502 c_7503_i h_7505 h_v_7508; omega) | omega))) (by have z_0 := tk_0; (first | (clear h_i_undoMany h_i_length h_i_size h_i_p h_i_at h_i_token h_i_number h_i_letterMany h_i_faultAt h_i_isKnown h_i_toldMany hw_7502 c_7503_i h_7505 h_v_7508; omega) | omega)) (by (first | (clear h_i_undoMany h_i_length h_i_size h_i_p h_i_at h_i_token h_i_number h_i_letterMany h_i_faultAt h_i_isKnown h_i_toldMany hw_7502 c_7503_i h_7505 h_v_7508; omega) | omega)) (lv_sub hl [0, 1, 2] rfl)
  exact lp_7496 13 0 0 ls (⟨by decide, by decide⟩ : 0 ≤ (0 : Int32).toInt ∧ (0 : Int32).toInt ≤ 4095) (⟨by decide, by decide⟩ : 0 ≤ (0 : Int32).toInt ∧ (0 : Int32).toInt ≤ 12) en_zero (by have z_0 := tk_0; (first | (clear h_i_undoMany h_i_length h_i_size h_i_p h_i_at h_i_token h_i_number h_i_letterMany h_i_faultAt h_i_isKnown h_i_toldMany; omega) | omega)) (by decide) (lv_sub hl [0, 1, 2] rfl)
set_option maxHeartbeats 4000000 in
set_option maxRecDepth 100000 in
theorem c_X12_comes (l : Launch) (D : va_G) (g : Nat → ClassId) (mm : Nat) (p0 : Int32) (i_thrown : Int32) (m_s : Nat) (m_spare : Nat) (m_kept : Nat) (m_undone : Nat) (m_triedWay : Nat) (m_isKept : Nat) (i_undoMany : Int32) (m_tape : Nat) (i_length : Int32) (i_size : Int32) (i_p : Int32) (i_at : Int32) (i_token : Int32) (i_number : Int32) (i_letterMany : Int32) (i_fault : Int32) (i_faultAt : Int32) (m_letters : Nat) (i_isKnown : Int32) (m_choice : Nat) (m_row : Nat) (m_up : Nat) (m_low : Nat) (m_m : Nat) (m_bestUp : Nat) (m_bestLow : Nat) (m_replyUp : Nat) (m_replyLow : Nat) (m_worthUp : Nat) (m_worthLow : Nat) (m_bestWay : Nat) (i_seed : Int32) (m_told : Nat) (i_toldMany : Int32) (sf : Nat → Int32) (chf : Nat → Int32) (h_p0 : 0 ≤ (p0 : Int32).toInt ∧ (p0 : Int32).toInt ≤ 4095) (h_i_undoMany : 0 ≤ (i_undoMany : Int32).toInt ∧ (i_undoMany : Int32).toInt ≤ 8) (h_i_length : 0 ≤ (i_length : Int32).toInt ∧ (i_length : Int32).toInt ≤ 440) (h_i_size : 0 ≤ (i_size : Int32).toInt ∧ (i_size : Int32).toInt ≤ 440) (h_i_p : 0 ≤ (i_p : Int32).toInt ∧ (i_p : Int32).toInt ≤ 440) (h_i_at : 0 ≤ (i_at : Int32).toInt ∧ (i_at : Int32).toInt ≤ 440) (h_i_token : 0 ≤ (i_token : Int32).toInt ∧ (i_token : Int32).toInt ≤ 4) (h_i_number : 0 ≤ (i_number : Int32).toInt ∧ (i_number : Int32).toInt ≤ 814) (h_i_letterMany : (-440) ≤ (i_letterMany : Int32).toInt ∧ (i_letterMany : Int32).toInt ≤ 440) (h_i_faultAt : 0 ≤ (i_faultAt : Int32).toInt ∧ (i_faultAt : Int32).toInt ≤ 440) (h_i_isKnown : 0 ≤ (i_isKnown : Int32).toInt ∧ (i_isKnown : Int32).toInt ≤ 1) (h_i_toldMany : 0 ≤ (i_toldMany : Int32).toInt ∧ (i_toldMany : Int32).toInt ≤ 900) (h_chf : ∀ j : Nat, 0 ≤ (chf j).toInt ∧ (chf j).toInt ≤ 2) (hG : GS sf) : Met l yX12_comes (.code yX12_comes cX12_comes 5 (some .int) :: wsL_law) ({ frames := 2, cells := 0, slots := 0, locals := 45 }) (va_Pc [.ref mm, .int p0] (fun U => va_P D vwCl [(mm, .inr (12, (.int i_thrown :: .ref m_s :: .ref m_spare :: .ref m_kept :: .ref m_undone :: .ref m_triedWay :: .ref m_isKept :: .int i_undoMany :: .ref m_tape :: .int i_length :: .int i_size :: .int i_p :: .int i_at :: .int i_token :: .int i_number :: .int i_letterMany :: .int i_fault :: .int i_faultAt :: .ref m_letters :: .int i_isKnown :: .ref m_choice :: .ref m_row :: .ref m_up :: .ref m_low :: .ref m_m :: .ref m_bestUp :: .ref m_bestLow :: .ref m_replyUp :: .ref m_replyLow :: .ref m_worthUp :: .ref m_worthLow :: .ref m_bestWay :: .int i_seed :: .ref m_told :: .int i_toldMany :: []))), (m_s, .inl (g 0, 193, .inl sf)), (m_choice, .inl (g 0, 12, .inl chf))] U.heap ∧ va_K D vwCl (TY g) U)) (vp_Si (fun r => (0 ≤ (r : Int32).toInt ∧ (r : Int32).toInt ≤ 4095) ∧ (LF sf chf p0 r ∧ CL sf chf (bt r)))) 0 0 (fun _ => False) := by
  refine Met.ofW (cc := cX12_comes) (maxL := 5) (ret := (some .int)) (by decide) rfl ?_
  intro p e s m args below meth c s₁ B hml hv
  obtain ⟨ha, hP, hK⟩ := hv
  have hx := B.exec
  have hb := B.bytes
  have hr := B.returns
  have hts0 := atoms_spec (ws := (.code yX12_comes cX12_comes 5 (some .int) :: wsL_law)) B.pre
  have hts : ∀ w ∈ wsL_law, w.before args s = true := fun w h => hts0 w (List.mem_cons_of_mem _ h)
  have hown : s.vm.findClass RX12 = some m.cls := findClass_of_methodNamed B.named
  have hlocks := B.notSynchronized
  have hP : va_P D vwCl [(mm, .inr (12, (.int i_thrown :: .ref m_s :: .ref m_spare :: .ref m_kept :: .ref m_undone :: .ref m_triedWay :: .ref m_isKept :: .int i_undoMany :: .ref m_tape :: .int i_length :: .int i_size :: .int i_p :: .int i_at :: .int i_token :: .int i_number :: .int i_letterMany :: .int i_fault :: .int i_faultAt :: .ref m_letters :: .int i_isKnown :: .ref m_choice :: .ref m_row :: .ref m_up :: .ref m_low :: .ref m_m :: .ref m_bestUp :: .ref m_bestLow :: .ref m_replyUp :: .ref m_replyLow :: .ref m_worthUp :: .ref m_worthLow :: .ref m_bestWay :: .int i_seed :: .ref m_told :: .int i_toldMany :: []))), (m_s, .inl (g 0, 193, .inl sf)), (m_choice, .inl (g 0, 12, .inl chf))] s.heap := hP
  refine W.eq (g2 := entryFrame m ([.ref mm, .int p0] : List Value).toArray 5) (by rw [ha]) ?_
  have hl := lv_entry ([.ref mm, .int p0]) (n := 5) (Nat.le_of_ble_eq_true rfl)
  rw [lg_entry_eq]
  generalize (lg_sl ([.ref mm, .int p0]) ++ List.replicate (5 - (lg_sl ([.ref mm, .int p0])).length) Slot.unset).toArray = ls at hl ⊢
  have hl : lv_has ls 5 [(0, .ref mm), (1, .int p0)] := hl
  have gn9 := hG.r.1
  refine lv_iload_n hx hb dX12_comes_0 rfl (lv_at hl 1 rfl) ?_
  refine lv_istore_n (lv' := [(2, .int p0), (0, .ref mm), (1, .int p0)]) hx hb dX12_comes_1 rfl hl (by decide) rfl (fun ls hl => ?_)
  refine lv_iconst (v := 0) hx hb dX12_comes_2 (by decide) ?_
  refine lv_istore_n (lv' := [(3, .int 0), (2, .int p0), (0, .ref mm), (1, .int p0)]) hx hb dX12_comes_3 rfl hl (by decide) rfl (fun ls hl => ?_)
  have lp_7558 : ∀ (n_7558 : Nat) (x_7556 : Int32) (x_7557 : Int32) (ls : Array Slot), (0 ≤ (x_7556 : Int32).toInt ∧ (x_7556 : Int32).toInt ≤ 4095) → (0 ≤ (x_7557 : Int32).toInt ∧ (x_7557 : Int32).toInt ≤ 4095) → (LF sf chf p0 x_7556) → ((x_7557 : Int32) = x_7556 → CL sf chf (bt x_7556)) → (x_7557.toInt ≤ x_7556.toInt) → (4095 - x_7557.toInt < (n_7558 : Int)) → lv_has ls 5 [(3, .int x_7557), (2, .int x_7556), (0, .ref mm), (1, .int p0)] → W p l e (headSpec (.code yX12_comes cX12_comes 5 (some .int) :: wsL_law) ({ frames := 2, cells := 0, slots := 0, locals := 45 })).room s m args below meth c s.heap [] 0 0 (MQ below (vp_Si (fun r => (0 ≤ (r : Int32).toInt ∧ (r : Int32).toInt ≤ 4095) ∧ (LF sf chf p0 r ∧ CL sf chf (bt r)))) args s 0 0 (fun _ => False)) (F0 m 4 ls []) := by
    intro n_7558
    induction n_7558 with
    | zero =>
      intro x_7556 x_7557 ls h_x_7556 h_x_7557 hr7558_0 hr7558_1 hr7558_2 hm_7558 hl
      exfalso; omega
    | succ n_7558 ih_7558 =>
      intro x_7556 x_7557 ls h_x_7556 h_x_7557 hr7558_0 hr7558_1 hr7558_2 hm_7558 hl
      refine lv_iload_n hx hb dX12_comes_4 rfl (lv_at hl 0 rfl) ?_
      refine lv_iload_n hx hb dX12_comes_5 rfl (lv_at hl 1 rfl) ?_
      refine lv_icmp_eq (tgt := 62) hx hb dX12_comes_6 (by decide) (fun c_7559 => ?_) (fun c_7559 => ?_)
      · skip
        have c_7559_i : (x_7557 : Int32).toInt = (x_7556 : Int32).toInt := congrArg Int32.toInt c_7559
        refine lv_iload_n hx hb dX12_comes_62 rfl (lv_at hl 1 rfl) ?_
        exact W.iret (v := x_7556) hx hb hr (fun t ht hW => ⟨x_7556, rfl, ⟨(tr_w h_x_7556 (by decide) (by decide)), ⟨hr7558_0, hr7558_1 c_7559⟩⟩, ht⟩) (fun _ h => nomatch h) dX12_comes_63
      · skip
        have c_7559_i : ¬ (x_7557 : Int32).toInt = (x_7556 : Int32).toInt := (fun q => c_7559 (Int32.toInt_inj.mp q))
        refine lv_iload_n hx hb dX12_comes_9 rfl (lv_at hl 1 rfl) ?_
        refine lv_istore_n (lv' := [(3, .int x_7556), (2, .int x_7556), (0, .ref mm), (1, .int p0)]) hx hb dX12_comes_10 rfl hl (by decide) rfl (fun ls hl => ?_)
        refine lv_iconst (v := 0) hx hb dX12_comes_11 (by decide) ?_
        refine lv_istore (lv' := [(4, .int 0), (3, .int x_7556), (2, .int x_7556), (0, .ref mm), (1, .int p0)]) hx hb dX12_comes_12 hl (by decide) rfl (fun ls hl => ?_)
        have lp_7583 : ∀ (n_7583 : Nat) (x_7581 : Int32) (x_7582 : Int32) (ls : Array Slot), (0 ≤ (x_7581 : Int32).toInt ∧ (x_7581 : Int32).toInt ≤ 4095) → (0 ≤ (x_7582 : Int32).toInt ∧ (x_7582 : Int32).toInt ≤ 12) → (LF sf chf p0 x_7581) → (x_7581 = x_7556 → CLm sf chf x_7582.toInt.toNat (bt x_7556)) → (x_7556.toInt ≤ x_7581.toInt) → (x_7582.toInt ≤ (sf 0).toInt) → (12 - x_7582.toInt < (n_7583 : Int)) → lv_has ls 5 [(4, .int x_7582), (3, .int x_7556), (2, .int x_7581), (0, .ref mm), (1, .int p0)] → W p l e (headSpec (.code yX12_comes cX12_comes 5 (some .int) :: wsL_law) ({ frames := 2, cells := 0, slots := 0, locals := 45 })).room s m args below meth c s.heap [] 0 0 (MQ below (vp_Si (fun r => (0 ≤ (r : Int32).toInt ∧ (r : Int32).toInt ≤ 4095) ∧ (LF sf chf p0 r ∧ CL sf chf (bt r)))) args s 0 0 (fun _ => False)) (F0 m 14 ls []) := by
          intro n_7583
          induction n_7583 with
          | zero =>
            intro x_7581 x_7582 ls h_x_7581 h_x_7582 hr7583_0 hr7583_1 hr7583_2 hr7583_3 hm_7583 hl
            exfalso; omega
          | succ n_7583 ih_7583 =>
            intro x_7581 x_7582 ls h_x_7581 h_x_7582 hr7583_0 hr7583_1 hr7583_2 hr7583_3 hm_7583 hl
            refine lv_iload hx hb dX12_comes_14 (lv_at hl 0 rfl) ?_
            refine lv_aload_n hx hb dX12_comes_16 rfl (lv_at hl 3 rfl) ?_
            refine va_get (D := D) (ci := 12) (v := .ref m_s) (C := RX12) (T := TX12) (N := 35) hx hb hts inlX12 hown hK hP 0 rfl rfl 1 (by decide) (hts (Cond.fieldLink RX12 13 "ChanceRingsModel" "s" "[I") qw_73) (fun _ h9 => h9) rfl dX12_comes_17 ?_
            refine lv_iconst (v := 0) hx hb dX12_comes_20 (by decide) ?_
            refine va_iald hx hb hK hP 1 0 rfl rfl (tz_in (by decide +kernel)) dX12_comes_21 ?_
            refine lv_topi (fun v_7584 v_7584_e => ?_)
            have h_v_7584 : 0 ≤ (v_7584 : Int32).toInt ∧ (v_7584 : Int32).toInt ≤ 12 := by rw [v_7584_e]; exact gr_nodes hG.r (⟨by decide, by decide⟩ : 0 ≤ (0 : Int32).toInt ∧ (0 : Int32).toInt ≤ 0)
            have g_v_7584 : v_7584 = sf (0) := v_7584_e.trans (congrArg sf rfl)
            have gi_v_7584 := congrArg Int32.toInt g_v_7584
            refine lv_icmp_ge (tgt := 59) hx hb dX12_comes_22 (by decide) (fun c_7585 => ?_) (fun c_7585 => ?_)
            · skip
              have c_7585_i := Int32.le_iff_toInt_le.mp c_7585
              refine lv_goto (tgt := 4) hx hb dX12_comes_59 (by decide) ?_
              exact ih_7558 x_7581 x_7556 ls (tr_w h_x_7581 (by decide) (by decide)) (tr_w h_x_7556 (by decide) (by decide)) hr7583_0 (CLm_done (m := x_7582.toInt.toNat) hr7583_1 (by (first | (clear h_p0 h_i_undoMany h_i_length h_i_size h_i_p h_i_at h_i_token h_i_number h_i_letterMany h_i_faultAt h_i_isKnown h_i_toldMany; omega) | omega))) (by have z_0 := tk_0; (first | (clear h_p0 h_i_undoMany h_i_length h_i_size h_i_p h_i_at h_i_token h_i_number h_i_letterMany h_i_faultAt h_i_isKnown h_i_toldMany; omega) | omega)) (by (first | (clear h_p0 h_i_undoMany h_i_length h_i_size h_i_p h_i_at h_i_token h_i_number h_i_letterMany h_i_faultAt h_i_isKnown h_i_toldMany; omega) | omega)) (lv_sub hl [1, 2, 3, 4] rfl)
            · skip
              have c_7585_i := Int32.lt_iff_toInt_lt.mp (Int32.not_le.mp c_7585)
              have h_7586 : 0 ≤ (x_7582 : Int32).toInt ∧ (x_7582 : Int32).toInt ≤ 11 := nr_lt_l h_x_7582 h_v_7584 c_7585_i (by decide) (by decide)
              have h_7587 : 1 ≤ (v_7584 : Int32).toInt ∧ (v_7584 : Int32).toInt ≤ 12 := nr_lt_r h_x_7582 h_v_7584 c_7585_i (by decide) (by decide)
              refine lv_aload_n hx hb dX12_comes_25 rfl (lv_at hl 3 rfl) ?_
              refine lv_iload hx hb dX12_comes_26 (lv_at hl 0 rfl) ?_
              refine lv_iconst (v := 0) hx hb dX12_comes_28 (by decide) ?_
              have hPc := hP.sub (ws' := [(mm, .inr (12, (.int i_thrown :: .ref m_s :: .ref m_spare :: .ref m_kept :: .ref m_undone :: .ref m_triedWay :: .ref m_isKept :: .int i_undoMany :: .ref m_tape :: .int i_length :: .int i_size :: .int i_p :: .int i_at :: .int i_token :: .int i_number :: .int i_letterMany :: .int i_fault :: .int i_faultAt :: .ref m_letters :: .int i_isKnown :: .ref m_choice :: .ref m_row :: .ref m_up :: .ref m_low :: .ref m_m :: .ref m_bestUp :: .ref m_bestLow :: .ref m_replyUp :: .ref m_replyLow :: .ref m_worthUp :: .ref m_worthLow :: .ref m_bestWay :: .int i_seed :: .ref m_told :: .int i_toldMany :: []))), (m_s, .inl (g 0, 193, .inl sf))]) [0, 1] rfl
              refine vp_callSi (va_Run.run (va_runV (As := [.int x_7582, .int 0]) (rest := []) ⟨hx, hb, hml, hown, hts⟩ (c_X12_isKind l D g mm x_7582 0 i_thrown m_s m_spare m_kept m_undone m_triedWay m_isKept i_undoMany m_tape i_length i_size i_p i_at i_token i_number i_letterMany i_fault i_faultAt m_letters i_isKnown m_choice m_row m_up m_low m_m m_bestUp m_bestLow m_replyUp m_replyLow m_worthUp m_worthLow m_bestWay i_seed m_told i_toldMany sf (tr_w h_7586 (by decide) (by decide)) (tr_w h_i_undoMany (by decide) (by decide)) (tr_w h_i_length (by decide) (by decide)) (tr_w h_i_size (by decide) (by decide)) (tr_w h_i_p (by decide) (by decide)) (tr_w h_i_at (by decide) (by decide)) (tr_w h_i_token (by decide) (by decide)) (tr_w h_i_number (by decide) (by decide)) (tr_w h_i_letterMany (by decide) (by decide)) (tr_w h_i_faultAt (by decide) (by decide)) (tr_w h_i_isKnown (by decide) (by decide)) (tr_w h_i_toldMany (by decide) (by decide)) hG) (cwV 2 hts (tz_gV qw_94 qw_95 qw_96 qw_3 qw_97) rfl rfl rfl (by decide +kernel) ⟨Nat.le_of_ble_eq_true rfl, Nat.le_of_ble_eq_true rfl⟩) ⟨tz_blS, va_recv hK hPc (ci := 12) (q0 := 0) rfl rfl, tz_preS hPc hK⟩ rfl rfl hl.1 rfl (lv_room (Nat.le_of_ble_eq_true rfl)) dX12_comes_29 ⟨Nat.le_of_ble_eq_true rfl, Nat.le_of_ble_eq_true rfl⟩)) (fun r_7588 hw => ?_)
              have kk_0 := tk_0
              have hw_7589 : 0 ≤ (r_7588 : Int32).toInt ∧ (r_7588 : Int32).toInt ≤ 1 := hw.1
              have hw_7589_p0 : Hide (¬ (r_7588 : Int32).toInt = 0 → (sf (1 + (x_7582 : Int32).toInt.toNat)).toInt = (0 : Int32).toInt) := hw.2.1
              have hw_7589_p1 : Hide ((r_7588 : Int32).toInt = 0 → ¬ (sf (1 + (x_7582 : Int32).toInt.toNat)).toInt = (0 : Int32).toInt) := hw.2.2
              refine lv_if_ne (tgt := 53) hx hb dX12_comes_32 (by decide) (fun c_7590 => ?_) (fun c_7590 => ?_)
              · skip
                have c_7590_i : ¬ (r_7588 : Int32).toInt = (0 : Int32).toInt := (fun q => c_7590 (Int32.toInt_inj.mp q))
                have hw_7589_p0_u := (hw_7589_p0).get (fun q => c_7590_i (q.trans tk_0.symm))
                have h_7591 : 1 ≤ (r_7588 : Int32).toInt ∧ (r_7588 : Int32).toInt ≤ 1 := nr_ne_l hw_7589 (⟨by decide, by decide⟩ : 0 ≤ (0 : Int32).toInt ∧ (0 : Int32).toInt ≤ 0) c_7590_i (by decide) (by decide)
                obtain ⟨v_7593, v_7593_e⟩ : ∃ y : Int32, y = x_7582 + Int32.ofInt 1 := ⟨_, rfl⟩
                have h_v_7593 : 1 ≤ (v_7593 : Int32).toInt ∧ (v_7593 : Int32).toInt ≤ 12 := by rw [v_7593_e]; exact tr_add h_7586 (⟨by decide, by decide⟩ : 1 ≤ (Int32.ofInt 1 : Int32).toInt ∧ (Int32.ofInt 1 : Int32).toInt ≤ 1) (by decide) (by decide) (by decide) (by decide)
                have q_v_7593 : v_7593.toInt = x_7582.toInt + 1 := by rw [v_7593_e]; exact tr_addE h_7586 (⟨by decide, by decide⟩ : 1 ≤ (Int32.ofInt 1 : Int32).toInt ∧ (Int32.ofInt 1 : Int32).toInt ≤ 1) (by decide) (by decide)
                refine lv_iinc (v := v_7593) (lv' := [(4, .int v_7593), (3, .int x_7556), (2, .int x_7581), (0, .ref mm), (1, .int p0)]) hx hb dX12_comes_53 hl (k := 0) rfl v_7593_e.symm (by decide) rfl (fun ls hl => ?_)
                refine lv_goto (tgt := 14) hx hb dX12_comes_56 (by decide) ?_
                exact ih_7583 x_7581 v_7593 ls (tr_w h_x_7581 (by decide) (by decide)) (tr_w h_v_7593 (by decide) (by decide)) hr7583_0 (CLm_end hr7583_1 (by have z_0 := tk_0; (first | (clear h_p0 h_i_undoMany h_i_length h_i_size h_i_p h_i_at h_i_token h_i_number h_i_letterMany h_i_faultAt h_i_isKnown h_i_toldMany h_x_7556 h_x_7557 c_7559_i hw_7589 c_7590_i h_7591; omega) | omega)) (by (first | (clear h_p0 h_i_undoMany h_i_length h_i_size h_i_p h_i_at h_i_token h_i_number h_i_letterMany h_i_faultAt h_i_isKnown h_i_toldMany h_x_7556 h_x_7557 c_7559_i hw_7589 c_7590_i h_7591; omega) | omega))) (by have z_0 := tk_0; (first | (clear h_p0 h_i_undoMany h_i_length h_i_size h_i_p h_i_at h_i_token h_i_number h_i_letterMany h_i_faultAt h_i_isKnown h_i_toldMany h_x_7556 h_x_7557 c_7559_i hw_7589 c_7590_i h_7591; omega) | omega)) (by have z_0 := tk_0; (first | (clear h_p0 h_i_undoMany h_i_length h_i_size h_i_p h_i_at h_i_token h_i_number h_i_letterMany h_i_faultAt h_i_isKnown h_i_toldMany h_x_7556 h_x_7557 c_7559_i hw_7589 c_7590_i h_7591; omega) | omega)) (by (first | (clear h_p0 h_i_undoMany h_i_length h_i_size h_i_p h_i_at h_i_token h_i_number h_i_letterMany h_i_faultAt h_i_isKnown h_i_toldMany h_x_7556 h_x_7557 c_7559_i hw_7589 c_7590_i h_7591; omega) | omega)) (lv_sub hl [0, 1, 2, 3, 4] rfl)
              · skip
                have c_7590_i : (r_7588 : Int32).toInt = (0 : Int32).toInt := congrArg Int32.toInt c_7590
                have hw_7589_p1_u := (hw_7589_p1).get (c_7590_i.trans tk_0)
                have h_7592 : 0 ≤ (r_7588 : Int32).toInt ∧ (r_7588 : Int32).toInt ≤ 0 := nr_eq_l hw_7589 (⟨by decide, by decide⟩ : 0 ≤ (0 : Int32).toInt ∧ (0 : Int32).toInt ≤ 0) c_7590_i (by decide) (by decide)
                refine lv_aload_n hx hb dX12_comes_35 rfl (lv_at hl 3 rfl) ?_
                refine lv_iload hx hb dX12_comes_36 (lv_at hl 0 rfl) ?_
                have hPc := hP.sub (ws' := [(mm, .inr (12, (.int i_thrown :: .ref m_s :: .ref m_spare :: .ref m_kept :: .ref m_undone :: .ref m_triedWay :: .ref m_isKept :: .int i_undoMany :: .ref m_tape :: .int i_length :: .int i_size :: .int i_p :: .int i_at :: .int i_token :: .int i_number :: .int i_letterMany :: .int i_fault :: .int i_faultAt :: .ref m_letters :: .int i_isKnown :: .ref m_choice :: .ref m_row :: .ref m_up :: .ref m_low :: .ref m_m :: .ref m_bestUp :: .ref m_bestLow :: .ref m_replyUp :: .ref m_replyLow :: .ref m_worthUp :: .ref m_worthLow :: .ref m_bestWay :: .int i_seed :: .ref m_told :: .int i_toldMany :: []))), (m_s, .inl (g 0, 193, .inl sf)), (m_choice, .inl (g 0, 12, .inl chf))]) [0, 1, 2] rfl
                refine vp_callSi (va_Run.run (va_runV (As := [.int x_7582]) (rest := []) ⟨hx, hb, hml, hown, hts⟩ (c_X12_onBits l D g mm x_7582 i_thrown m_s m_spare m_kept m_undone m_triedWay m_isKept i_undoMany m_tape i_length i_size i_p i_at i_token i_number i_letterMany i_fault i_faultAt m_letters i_isKnown m_choice m_row m_up m_low m_m m_bestUp m_bestLow m_replyUp m_replyLow m_worthUp m_worthLow m_bestWay i_seed m_told i_toldMany sf chf (tr_w h_7586 (by decide) (by decide)) (tr_w h_i_undoMany (by decide) (by decide)) (tr_w h_i_length (by decide) (by decide)) (tr_w h_i_size (by decide) (by decide)) (tr_w h_i_p (by decide) (by decide)) (tr_w h_i_at (by decide) (by decide)) (tr_w h_i_token (by decide) (by decide)) (tr_w h_i_number (by decide) (by decide)) (tr_w h_i_letterMany (by decide) (by decide)) (tr_w h_i_faultAt (by decide) (by decide)) (tr_w h_i_isKnown (by decide) (by decide)) (tr_w h_i_toldMany (by decide) (by decide)) (tr_wa h_chf (by decide) (by decide)) hG) (cwV 1 hts (tz_gV qw_126 qw_127 qw_128 qw_3 qw_129) rfl rfl rfl (by decide +kernel) ⟨Nat.le_of_ble_eq_true rfl, Nat.le_of_ble_eq_true rfl⟩) ⟨tz_blS, va_recv hK hPc (ci := 12) (q0 := 0) rfl rfl, tz_preS hPc hK⟩ rfl rfl hl.1 rfl (lv_room (Nat.le_of_ble_eq_true rfl)) dX12_comes_38 ⟨Nat.le_of_ble_eq_true rfl, Nat.le_of_ble_eq_true rfl⟩)) (fun r_7594 hw => ?_)
                have hw_7595 : 0 ≤ (r_7594 : Int32).toInt ∧ (r_7594 : Int32).toInt ≤ 4095 := hw.1
                have hw_7595_p0 : ∀ j : Nat, bt r_7594 j ↔ ON sf chf (x_7582 : Int32).toInt.toNat j := hw.2
                refine lv_iload_n hx hb dX12_comes_41 rfl (lv_at hl 2 rfl) ?_
                refine lv_iand hx hb dX12_comes_42 ?_
                refine lv_topi (fun v_7596 v_7596_e => ?_)
                refine lv_if_eq (tgt := 53) hx hb dX12_comes_43 (by decide) (fun c_7597 => ?_) (fun c_7597 => ?_)
                · skip
                  have c_7597_i : (v_7596 : Int32).toInt = (0 : Int32).toInt := congrArg Int32.toInt c_7597
                  have h_7598 : 0 ≤ (v_7596 : Int32).toInt ∧ (v_7596 : Int32).toInt ≤ 0 := by rw [c_7597]; exact ⟨by decide, by decide⟩
                  obtain ⟨v_7599, v_7599_e⟩ : ∃ y : Int32, y = x_7582 + Int32.ofInt 1 := ⟨_, rfl⟩
                  have h_v_7599 : 1 ≤ (v_7599 : Int32).toInt ∧ (v_7599 : Int32).toInt ≤ 12 := by rw [v_7599_e]; exact tr_add h_7586 (⟨by decide, by decide⟩ : 1 ≤ (Int32.ofInt 1 : Int32).toInt ∧ (Int32.ofInt 1 : Int32).toInt ≤ 1) (by decide) (by decide) (by decide) (by decide)
                  have q_v_7599 : v_7599.toInt = x_7582.toInt + 1 := by rw [v_7599_e]; exact tr_addE h_7586 (⟨by decide, by decide⟩ : 1 ≤ (Int32.ofInt 1 : Int32).toInt ∧ (Int32.ofInt 1 : Int32).toInt ≤ 1) (by decide) (by decide)
                  refine lv_iinc (v := v_7599) (lv' := [(4, .int v_7599), (3, .int x_7556), (2, .int x_7581), (0, .ref mm), (1, .int p0)]) hx hb dX12_comes_53 hl (k := 0) rfl v_7599_e.symm (by decide) rfl (fun ls hl => ?_)
                  refine lv_goto (tgt := 14) hx hb dX12_comes_56 (by decide) ?_
                  exact ih_7583 x_7581 v_7599 ls (tr_w h_x_7581 (by decide) (by decide)) (tr_w h_v_7599 (by decide) (by decide)) hr7583_0 (CLm_not hr7583_1 h_x_7581 hw_7595_p0 hw_7595 (by rw [← v_7596_e]; exact c_7597) (by (first | (clear h_p0 h_i_undoMany h_i_length h_i_size h_i_p h_i_at h_i_token h_i_number h_i_letterMany h_i_faultAt h_i_isKnown h_i_toldMany h_x_7556 h_x_7557 c_7559_i hw_7589 c_7590_i h_7592 c_7597_i h_7598; omega) | omega))) (by have z_0 := tk_0; (first | (clear h_p0 h_i_undoMany h_i_length h_i_size h_i_p h_i_at h_i_token h_i_number h_i_letterMany h_i_faultAt h_i_isKnown h_i_toldMany h_x_7556 h_x_7557 c_7559_i hw_7589 c_7590_i h_7592 c_7597_i h_7598; omega) | omega)) (by have z_0 := tk_0; (first | (clear h_p0 h_i_undoMany h_i_length h_i_size h_i_p h_i_at h_i_token h_i_number h_i_letterMany h_i_faultAt h_i_isKnown h_i_toldMany h_x_7556 h_x_7557 c_7559_i hw_7589 c_7590_i h_7592 c_7597_i h_7598; omega) | omega)) (by (first | (clear h_p0 h_i_undoMany h_i_length h_i_size h_i_p h_i_at h_i_token h_i_number h_i_letterMany h_i_faultAt h_i_isKnown h_i_toldMany h_x_7556 h_x_7557 c_7559_i hw_7589 c_7590_i h_7592 c_7597_i h_7598; omega) | omega)) (lv_sub hl [0, 1, 2, 3, 4] rfl)
                · skip
                  have c_7597_i : ¬ (v_7596 : Int32).toInt = (0 : Int32).toInt := (fun q => c_7597 (Int32.toInt_inj.mp q))
                  refine lv_iload_n hx hb dX12_comes_46 rfl (lv_at hl 2 rfl) ?_
                  refine lv_iconst (v := 1) hx hb dX12_comes_47 (by decide) ?_
                  refine lv_iload hx hb dX12_comes_48 (lv_at hl 0 rfl) ?_
                  refine lv_ishl hx hb dX12_comes_50 ?_
                  refine lv_topi (fun v_7600 v_7600_e => ?_)
                  have h_v_7600 : 0 ≤ (v_7600 : Int32).toInt ∧ (v_7600 : Int32).toInt ≤ 4095 := by rw [v_7600_e]; exact tr_shl12 (tr_w h_7586 (by decide) (by decide))
                  refine lv_ior hx hb dX12_comes_51 ?_
                  refine lv_topi (fun v_7601 v_7601_e => ?_)
                  have h_v_7601 : 0 ≤ (v_7601 : Int32).toInt ∧ (v_7601 : Int32).toInt ≤ 4095 := by rw [v_7601_e]; exact (tr_or12 (tr_w h_x_7581 (by decide) (by decide)) (tr_w h_v_7600 (by decide) (by decide))).1
                  have o_v_7601 : (x_7581 : Int32).toInt ≤ (v_7601 : Int32).toInt := by rw [v_7601_e]; exact (tr_or12 (tr_w h_x_7581 (by decide) (by decide)) (tr_w h_v_7600 (by decide) (by decide))).2
                  refine lv_istore_n (lv' := [(2, .int v_7601), (4, .int x_7582), (3, .int x_7556), (0, .ref mm), (1, .int p0)]) hx hb dX12_comes_52 rfl hl (by decide) rfl (fun ls hl => ?_)
                  obtain ⟨v_7602, v_7602_e⟩ : ∃ y : Int32, y = x_7582 + Int32.ofInt 1 := ⟨_, rfl⟩
                  have h_v_7602 : 1 ≤ (v_7602 : Int32).toInt ∧ (v_7602 : Int32).toInt ≤ 12 := by rw [v_7602_e]; exact tr_add h_7586 (⟨by decide, by decide⟩ : 1 ≤ (Int32.ofInt 1 : Int32).toInt ∧ (Int32.ofInt 1 : Int32).toInt ≤ 1) (by decide) (by decide) (by decide) (by decide)
                  have q_v_7602 : v_7602.toInt = x_7582.toInt + 1 := by rw [v_7602_e]; exact tr_addE h_7586 (⟨by decide, by decide⟩ : 1 ≤ (Int32.ofInt 1 : Int32).toInt ∧ (Int32.ofInt 1 : Int32).toInt ≤ 1) (by decide) (by decide)
                  refine lv_iinc (v := v_7602) (lv' := [(4, .int v_7602), (2, .int v_7601), (3, .int x_7556), (0, .ref mm), (1, .int p0)]) hx hb dX12_comes_53 hl (k := 1) rfl v_7602_e.symm (by decide) rfl (fun ls hl => ?_)
                  refine lv_goto (tgt := 14) hx hb dX12_comes_56 (by decide) ?_
                  exact ih_7583 v_7601 v_7602 ls (tr_w h_v_7601 (by decide) (by decide)) (tr_w h_v_7602 (by decide) (by decide)) (LF_add (t := x_7582) hr7583_0 h_x_7581 h_7586 v_7600_e v_7601_e (by (first | (clear h_p0 h_i_undoMany h_i_length h_i_size h_i_p h_i_at h_i_token h_i_number h_i_letterMany h_i_faultAt h_i_isKnown h_i_toldMany h_x_7556 h_x_7557 c_7559_i hw_7589 c_7590_i h_7592 c_7597_i h_v_7600; omega) | omega)) (by (first | (clear h_p0 h_i_undoMany h_i_length h_i_size h_i_p h_i_at h_i_token h_i_number h_i_letterMany h_i_faultAt h_i_isKnown h_i_toldMany h_x_7556 h_x_7557 c_7559_i hw_7589 c_7590_i h_7592 c_7597_i h_v_7600; omega) | omega)) (by have z_0 := tk_0; (first | (clear h_p0 h_i_undoMany h_i_length h_i_size h_i_p h_i_at h_i_token h_i_number h_i_letterMany h_i_faultAt h_i_isKnown h_i_toldMany h_x_7556 h_x_7557 c_7559_i hw_7589 c_7590_i h_7592 c_7597_i h_v_7600; omega) | omega)) hw_7595_p0 hw_7595 (by rw [← v_7596_e]; exact c_7597)) (CLm_add (t := x_7582) hr7583_1 (by (first | (clear h_p0 h_i_undoMany h_i_length h_i_size h_i_p h_i_at h_i_token h_i_number h_i_letterMany h_i_faultAt h_i_isKnown h_i_toldMany h_x_7556 h_x_7557 c_7559_i hw_7589 c_7590_i h_7592 c_7597_i h_v_7600; omega) | omega)) h_x_7581 h_7586 v_7600_e v_7601_e (by (first | (clear h_p0 h_i_undoMany h_i_length h_i_size h_i_p h_i_at h_i_token h_i_number h_i_letterMany h_i_faultAt h_i_isKnown h_i_toldMany h_x_7556 h_x_7557 c_7559_i hw_7589 c_7590_i h_7592 c_7597_i h_v_7600; omega) | omega)) (by (first | (clear h_p0 h_i_undoMany h_i_length h_i_size h_i_p h_i_at h_i_token h_i_number h_i_letterMany h_i_faultAt h_i_isKnown h_i_toldMany h_x_7556 h_x_7557 c_7559_i hw_7589 c_7590_i h_7592 c_7597_i h_v_7600; omega) | omega))) (by have z_0 := tk_0; (first | (clear h_p0 h_i_undoMany h_i_length h_i_size h_i_p h_i_at h_i_token h_i_number h_i_letterMany h_i_faultAt h_i_isKnown h_i_toldMany h_x_7556 h_x_7557 c_7559_i hw_7589 c_7590_i h_7592 c_7597_i h_v_7600; omega) | omega)) (by have z_0 := tk_0; (first | (clear h_p0 h_i_undoMany h_i_length h_i_size h_i_p h_i_at h_i_token h_i_number h_i_letterMany h_i_faultAt h_i_isKnown h_i_toldMany h_x_7556 h_x_7557 c_7559_i hw_7589 c_7590_i h_7592 c_7597_i h_v_7600; omega) | omega)) (by (first | (clear h_p0 h_i_undoMany h_i_length h_i_size h_i_p h_i_at h_i_token h_i_number h_i_letterMany h_i_faultAt h_i_isKnown h_i_toldMany h_x_7556 h_x_7557 c_7559_i hw_7589 c_7590_i h_7592 c_7597_i h_v_7600; omega) | omega)) (lv_sub hl [0, 2, 1, 3, 4] rfl)
        exact lp_7583 13 x_7556 0 ls (tr_w h_x_7556 (by decide) (by decide)) (⟨by decide, by decide⟩ : 0 ≤ (0 : Int32).toInt ∧ (0 : Int32).toInt ≤ 12) hr7558_0 (fun _ => CLm_zero) (by have z_0 := tk_0; (first | (clear h_p0 h_i_undoMany h_i_length h_i_size h_i_p h_i_at h_i_token h_i_number h_i_letterMany h_i_faultAt h_i_isKnown h_i_toldMany; omega) | omega)) (by have z_0 := tk_0; (first | (clear h_p0 h_i_undoMany h_i_length h_i_size h_i_p h_i_at h_i_token h_i_number h_i_letterMany h_i_faultAt h_i_isKnown h_i_toldMany; omega) | omega)) (by decide) (lv_sub hl [0, 1, 2, 3, 4] rfl)
  exact lp_7558 4097 p0 0 ls (tr_w h_p0 (by decide) (by decide)) (⟨by decide, by decide⟩ : 0 ≤ (0 : Int32).toInt ∧ (0 : Int32).toInt ≤ 4095) LF_self CL_zero (by have z_0 := tk_0; (first | (clear h_i_undoMany h_i_length h_i_size h_i_p h_i_at h_i_token h_i_number h_i_letterMany h_i_faultAt h_i_isKnown h_i_toldMany; omega) | omega)) (by have z9_0 := tk_0; (first | (clear h_i_undoMany h_i_length h_i_size h_i_p h_i_at h_i_token h_i_number h_i_letterMany h_i_faultAt h_i_isKnown h_i_toldMany; omega) | omega)) (lv_sub hl [0, 1, 2, 3] rfl)
/-! the reference's rows of rows: 12 rows of 13 longs -/
def tup (ct : Nat → Nat → Int64) (R J : Nat) (x : Int64) : Nat → Nat → Int64 := fun k => if k = R then vp_updL (ct R) J x else ct k
theorem tup_at (ct : Nat → Nat → Int64) (R J : Nat) (x : Int64) : tup ct R J x R J = x := by
  unfold tup vp_updL
  rw [if_pos rfl, if_pos rfl]
theorem tup_ne (ct : Nat → Nat → Int64) {R J i j : Nat} (x : Int64) (h : i ≠ R ∨ j ≠ J) : tup ct R J x i j = ct i j := by
  unfold tup
  by_cases e : i = R
  · subst e
    rw [if_pos rfl]
    unfold vp_updL
    rw [if_neg (by omega)]
  · rw [if_neg e]
theorem tup_cg {ct : Nat → Nat → Int64} {a a2 b b2 : Nat} {x : Int64} (h1 : a = a2) (h2 : b = b2) : tup ct a b x = tup ct a2 b2 x := by rw [h1, h2]
section TQ2
variable {p : Program} {l : Launch} {e : Env} {R : Room} {s : State} {m : MethodId} {args : Array Value} {below : List Frame} {meth : Method} {c : Code} {H H0 : Heap} {locs : List Loc} {cells slots : Nat} {Q : State → Prop} {pc : Nat} {ls : Array Slot} {rest : List Value} {cc : ByteArray} {D : va_G} {g : Nat → ClassId} {A : Nat → Prop} {rr : Nat → Nat} {WS : (Nat → Nat → Int64) → va_W} {ct : Nat → Nat → Int64}
theorem tq_ald12 (hx : p.tables.exec = Jvm.exec) (hb : c.code = cc) (hK : va_K D vwCl (TY g) s) (hP : va_P D vwCl (WS ct) H) (q0 : Nat) (hget : ∀ (ct : Nat → Nat → Int64) (i : Nat), i < 12 → (WS ct)[q0 + i]? = some (rr i, .inl (g 1, 13, .inr (.inl (ct i))))) {r j : Int32} (hr : vp_in r 12) (hj : vp_in j 13) (hdg : decode cc pc = .ok (.laload, 1))
    (kk : W p l e R s m args below meth c H locs cells slots Q (F0 m (pc + 1) ls (.long (ct r.toNatClampNeg j.toNatClampNeg) :: rest))) : W p l e R s m args below meth c H locs cells slots Q (F0 m pc ls (.int j :: .ref (rr r.toNatClampNeg) :: rest)) :=
  va_lald hx hb hK hP (q0 + r.toNatClampNeg) 1 (hget ct _ (tr_cl hr)) rfl hj hdg kk
theorem tq_ast12 (hx : p.tables.exec = Jvm.exec) (hb : c.code = cc) (hK : va_K D vwCl (TY g) s) (hP : va_P D vwCl (WS ct) H) (hD : va_D A (WS ct)) (hS : va_S A H0 H locs) (q0 : Nat) (hget : ∀ (ct : Nat → Nat → Int64) (i : Nat), i < 12 → (WS ct)[q0 + i]? = some (rr i, .inl (g 1, 13, .inr (.inl (ct i))))) (hset : ∀ (ct : Nat → Nat → Int64) (i : Nat) (f : Nat → Int64), i < 12 → (WS ct).set (q0 + i) (rr i, .inl (g 1, 13, .inr (.inl f))) = WS (fun k => if k = i then f else ct k)) {r j : Int32} {x : Int64} (hr : vp_in r 12) (hj : vp_in j 13) (hdg : decode cc pc = .ok (.lastore, 1))
    (kk : ∀ (ct1 : Nat → Nat → Int64), ct1 = tup ct r.toNatClampNeg j.toNatClampNeg x → ∀ (H1 : Heap) (locs1 : List Loc), va_P D vwCl (WS ct1) H1 → va_D A (WS ct1) → va_S A H0 H1 locs1 → W p l e R s m args below meth c H1 locs1 cells slots Q (F0 m (pc + 1) ls rest)) : W p l e R s m args below meth c H locs cells slots Q (F0 m pc ls (.long x :: .int j :: .ref (rr r.toNatClampNeg) :: rest)) := by
  refine va_last hx hb hK hP hD hS (q0 + r.toNatClampNeg) 1 (hget ct _ (tr_cl hr)) rfl hj hdg (fun H1 locs1 hP hD hS => ?_)
  rw [hset ct _ _ (tr_cl hr)] at hP hD
  exact kk _ rfl H1 locs1 hP hD hS
end TQ2
/-! longs -/
theorem tl_any (x : Int64) : -9223372036854775808 ≤ x.toInt ∧ x.toInt ≤ 9223372036854775807 := by
  have h1 := Int64.le_toInt x
  have h2 := Int64.toInt_le x
  have e1 : Int64.maxValue.toInt = 9223372036854775807 := by decide
  have e2 : Int64.minValue.toInt = -9223372036854775808 := by decide
  omega
theorem tl_bmod {z : Int} (h1 : -9223372036854775808 ≤ z) (h2 : z ≤ 9223372036854775807) : z.bmod 18446744073709551616 = z := by
  rw [Int.bmod_eq_of_le] <;> omega
theorem tl_add {x y : Int64} (h1 : -9223372036854775808 ≤ x.toInt + y.toInt) (h2 : x.toInt + y.toInt ≤ 9223372036854775807) : (x + y).toInt = x.toInt + y.toInt := by
  rw [Int64.toInt_add]; exact tl_bmod h1 h2
theorem tl_sub {x y : Int64} (h1 : -9223372036854775808 ≤ x.toInt - y.toInt) (h2 : x.toInt - y.toInt ≤ 9223372036854775807) : (x - y).toInt = x.toInt - y.toInt := by
  rw [Int64.toInt_sub]; exact tl_bmod h1 h2
theorem tl_mul {x y : Int64} (h1 : -9223372036854775808 ≤ x.toInt * y.toInt) (h2 : x.toInt * y.toInt ≤ 9223372036854775807) : (x * y).toInt = x.toInt * y.toInt := by
  rw [Int64.toInt_mul]; exact tl_bmod h1 h2
/-- a quotient that comes out even, by a number above 0 -/
theorem tl_div {x y : Int64} {q : Int} (h : x.toInt = q * y.toInt) (hy : ¬ y.toInt = 0) (h1 : -9223372036854775808 ≤ q) (h2 : q ≤ 9223372036854775807) : (x / y).toInt = q := by
  rw [Int64.toInt_div, h, Int.mul_tdiv_cancel _ hy]
  exact tl_bmod h1 h2
theorem tl_absmul {a b A B : Int} (h1 : -A ≤ a ∧ a ≤ A) (h2 : -B ≤ b ∧ b ≤ B) : -(A * B) ≤ a * b ∧ a * b ≤ A * B := by
  have hA : 0 ≤ A := by omega
  have hB : 0 ≤ B := by omega
  have e1 : 0 ≤ (A - a) * (B + b) := Int.mul_nonneg (by omega) (by omega)
  have e2 : 0 ≤ (A + a) * (B - b) := Int.mul_nonneg (by omega) (by omega)
  have e3 : 0 ≤ (A - a) * (B - b) := Int.mul_nonneg (by omega) (by omega)
  have e4 : 0 ≤ (A + a) * (B + b) := Int.mul_nonneg (by omega) (by omega)
  constructor <;> grind
theorem tl_step {u v w y b : Int64} {U V Wi Y B z : Int} (hu : u.toInt = U) (hv : v.toInt = V) (hw : w.toInt = Wi) (hy : y.toInt = Y) (hb : b.toInt = B) (bu : -3600000000 ≤ U ∧ U ≤ 3600000000) (bv : -400000000 ≤ V ∧ V ≤ 400000000) (bw : -400000000 ≤ Wi ∧ Wi ≤ 400000000) (by_ : -3600000000 ≤ Y ∧ Y ≤ 3600000000) (hB : 0 < B) (hz : z * B = U * V - Wi * Y) (bz : -3600000000 ≤ z ∧ z ≤ 3600000000) : ((u * v - w * y) / b).toInt = z := by
  subst hu hv hw hy hb
  have m1 := tl_absmul bu bv
  have m2 := tl_absmul bw by_
  have e1 := tl_mul (x := u) (y := v) (by omega) (by omega)
  have e2 := tl_mul (x := w) (y := y) (by omega) (by omega)
  have e3 := tl_sub (x := u * v) (y := w * y) (by omega) (by omega)
  exact tl_div (by rw [e3, e1, e2, hz]) (by omega) (by omega) (by omega)
/-- the rows as whole numbers -/
def tI (ct : Nat → Nat → Int64) : Nat → Nat → Int := fun i j => (ct i j).toInt
/-- the last column is bounded by the rows' sums -/
def LOK (n : Nat) (A : Nat → Nat → Int) : Prop := ∀ i, i < n → eA A i n ≤ 9 * pm_s n (eA A) (fun _ => 1) i ∧ -(9 * pm_s n (eA A) (fun _ => 1) i) ≤ eA A i n
def JOK (n : Nat) (A : Nat → Nat → Int) (j : Nat) : Prop := j < n ∨ (j = n ∧ LOK n A)
theorem JOK.le {n : Nat} {A : Nat → Nat → Int} {j : Nat} (h : JOK n A j) : j ≤ n := by rcases h with h | h <;> omega
theorem EH.jb {n : Nat} {A : Nat → Nat → Int} (h : EH n A) {c i j : Nat} (hc : c ≤ n) (hi : i < n) (hj : JOK n A j) : -3600000000 ≤ eX A c i j ∧ eX A c i j ≤ 3600000000 := by
  rcases hj with q | ⟨rfl, q⟩
  · have := h.bnd hc hi q; omega
  · exact h.last q hc hi
def SM (n : Nat) (A : Nat → Nat → Int) (c : Nat) (ct : Nat → Nat → Int64) : Prop := ∀ i j, i < n → JOK n A j → (ct i j).toInt = eX A c i j
def sX (A : Nat → Nat → Int) (c i j : Nat) : Int := if i = c ∨ j = c then eX A c i j else eX A (c + 1) i j
def SY (n : Nat) (A : Nat → Nat → Int) (c i : Nat) (j : Int) (ct : Nat → Nat → Int64) : Prop := ∀ i' j', i' < n → JOK n A j' → (ct i' j').toInt = if i' < i ∨ (i' = i ∧ j < (j' : Int)) then sX A c i' j' else eX A c i' j'
def SZ (n : Nat) (A : Nat → Nat → Int) (c i : Nat) (ct : Nat → Nat → Int64) : Prop := ∀ i' j', i' < n → JOK n A j' → (ct i' j').toInt = if i' < i then eX A (c + 1) i' j' else sX A c i' j'
section SO
variable {n c : Nat} {A : Nat → Nat → Int} {ct : Nat → Nat → Int64}
theorem SM_zero (ct : Nat → Nat → Int64) : SM n (tI ct) 0 ct := fun i j _ _ => (e_X0 (tI ct) i j).symm
theorem SM_piv (h : EH n A) (hS : SM n A c ct) (hc : c < n) : 0 < (ct c c).toInt := by
  rw [hS c c hc (Or.inl hc)]; exact h.ppos hc
theorem SY_start (h : SM n A c ct) {i : Nat} {j : Int} (hi : i = 0) (hj : (n : Int) ≤ j) : SY n A c i j ct := fun i' j' q1 q2 => by
  have := q2.le
  rw [if_neg (by omega)]; exact h i' j' q1 q2
theorem SY_row {i i2 : Nat} {j j2 : Int} (h : SY n A c i j ct) (hj : j < 0) (hi : i2 = i + 1) (hj2 : (n : Int) ≤ j2) : SY n A c i2 j2 ct := fun i' j' q1 q2 => by
  have := q2.le
  rw [h i' j' q1 q2]
  by_cases e : i' < i ∨ (i' = i ∧ j < (j' : Int))
  · rw [if_pos e, if_pos (by omega)]
  · rw [if_neg e, if_neg (by omega)]
theorem SY_skip {i : Nat} {j j2 : Int} (h : SY n A c i j ct) (hq : i = c ∨ j = (c : Int)) (hj : j2 = j - 1) : SY n A c i j2 ct := fun i' j' q1 q2 => by
  rw [h i' j' q1 q2]
  by_cases e : i' < i ∨ (i' = i ∧ j < (j' : Int))
  · rw [if_pos e, if_pos (by omega)]
  · rw [if_neg e]
    by_cases e2 : i' < i ∨ (i' = i ∧ j2 < (j' : Int))
    · rw [if_pos e2]
      unfold sX
      rw [if_pos (by omega)]
    · rw [if_neg e2]
theorem SY_put {i J : Nat} {j j2 : Int} {ct2 : Nat → Nat → Int64} {w : Int64} (h : SY n A c i j ct) (hJ : j = (J : Int)) (hct : ct2 = tup ct i J w) (hw : JOK n A J → w.toInt = eX A (c + 1) i J) (hi : i ≠ c) (hjc : J ≠ c) (hj : j2 = j - 1) : SY n A c i j2 ct2 := fun i' j' q1 q2 => by
  subst hct
  by_cases e0 : i' = i ∧ j' = J
  · obtain ⟨rfl, rfl⟩ := e0
    rw [tup_at, hw q2, if_pos (by omega)]
    unfold sX
    rw [if_neg (by omega)]
  · rw [tup_ne _ _ (by omega), h i' j' q1 q2]
    by_cases e : i' < i ∨ (i' = i ∧ j < (j' : Int))
    · rw [if_pos e, if_pos (by omega)]
    · rw [if_neg e, if_neg (by omega)]
theorem SY_at {i i' j' : Nat} {j : Int} (h : SY n A c i j ct) (q1 : i' < n) (q2 : JOK n A j') (hq : i' = c ∨ j' = c ∨ (i' = i ∧ (j' : Int) = j)) : (ct i' j').toInt = eX A c i' j' := by
  rw [h i' j' q1 q2]
  by_cases e : i' < i ∨ (i' = i ∧ j < (j' : Int))
  · rw [if_pos e]
    unfold sX
    rw [if_pos (by omega)]
  · rw [if_neg e]
theorem SY_val (h : EH n A) {i J : Nat} {j : Int} {b u v w y : Int64} (hS : SY n A c i j ct) (hJ : j = (J : Int)) (hb : b.toInt = eb A c) (hc : c < n) (hi : i < n) (hic : i ≠ c) (hu : u = ct i J) (hv : v = ct c c) (hw : w = ct i c) (hy : y = ct c J) (hj : JOK n A J) : ((u * v - w * y) / b).toInt = eX A (c + 1) i J := by
  have jc : JOK n A c := Or.inl hc
  exact tl_step (by rw [hu]; exact SY_at hS hi hj (by omega)) (by rw [hv]; exact SY_at hS hc jc (by omega)) (by rw [hw]; exact SY_at hS hi jc (by omega)) (by rw [hy]; exact SY_at hS hc hj (by omega)) hb (h.jb (by omega) hi hj) (h.bnd (by omega) hc hc) (h.bnd (by omega) hi hc) (h.jb (by omega) hc hj) (h.bpos (by omega)) (h.step hc hic J) (h.jb (by omega) hi hj)
theorem SZ_start {i : Nat} {j : Int} (h : SY n A c i j ct) (hi : n ≤ i) : SZ n A c 0 ct := fun i' j' q1 q2 => by
  rw [h i' j' q1 q2, if_pos (by omega), if_neg (by omega)]
theorem SZ_skip (hE : EH n A) {i i2 : Nat} (h : SZ n A c i ct) (hc : c < n) (hi : i = c) (hi2 : i2 = i + 1) : SZ n A c i2 ct := fun i' j' q1 q2 => by
  rw [h i' j' q1 q2]
  by_cases e : i' < i
  · rw [if_pos e, if_pos (by omega)]
  · rw [if_neg e]
    by_cases e2 : i' < i2
    · rw [if_pos e2]
      obtain rfl : i' = c := by omega
      unfold sX
      rw [if_pos (Or.inl rfl), hE.row hc]
    · rw [if_neg e2]
theorem SZ_one (hE : EH n A) {i i2 : Nat} {ct2 : Nat → Nat → Int64} {z : Int64} (h : SZ n A c i ct) (hc : c < n) (hi : c < i) (hin : i < n) (hi2 : i2 = i + 1) (hz : z.toInt = 0) (hct : ct2 = tup ct i c z) : SZ n A c i2 ct2 := fun i' j' q1 q2 => by
  subst hct
  by_cases e0 : i' = i ∧ j' = c
  · obtain ⟨rfl, rfl⟩ := e0
    rw [tup_at, hz, if_pos (by omega), hE.unit (by omega) i' j' (by omega), if_neg (by omega)]
  · rw [tup_ne _ _ (by omega), h i' j' q1 q2]
    by_cases e : i' < i
    · rw [if_pos e, if_pos (by omega)]
    · rw [if_neg e]
      by_cases e2 : i' < i2
      · rw [if_pos e2]
        unfold sX
        rw [if_neg (by omega)]
      · rw [if_neg e2]
theorem SZ_two (hE : EH n A) {i i2 : Nat} {ct2 ct3 : Nat → Nat → Int64} {z v : Int64} (h : SZ n A c i ct) (hc : c < n) (hi : i < c) (hi2 : i2 = i + 1) (hz : z.toInt = 0) (hct : ct2 = tup ct i c z) (hv : v = ct2 c c) (hct3 : ct3 = tup ct2 i i v) : SZ n A c i2 ct3 := fun i' j' q1 q2 => by
  have jc : JOK n A c := Or.inl hc
  have ev : v.toInt = eb A (c + 1) := by
    rw [hv, hct, tup_ne _ _ (by omega), h c c hc jc, if_neg (by omega), e_bS]
    unfold sX
    rw [if_pos (Or.inl rfl)]
  subst hct3
  by_cases e1 : i' = i ∧ j' = i
  · obtain ⟨rfl, rfl⟩ := e1
    rw [tup_at, ev, if_pos (by omega), hE.unit (by omega) j' j' (by omega), if_pos rfl]
  · rw [tup_ne _ _ (by omega), hct]
    by_cases e0 : i' = i ∧ j' = c
    · obtain ⟨rfl, rfl⟩ := e0
      rw [tup_at, hz, if_pos (by omega), hE.unit (by omega) i' j' (by omega), if_neg (by omega)]
    · rw [tup_ne _ _ (by omega), h i' j' q1 q2]
      by_cases e : i' < i
      · rw [if_pos e, if_pos (by omega)]
      · rw [if_neg e]
        by_cases e2 : i' < i2
        · rw [if_pos e2]
          unfold sX
          rw [if_neg (by omega)]
        · rw [if_neg e2]
theorem SZ_end {i c2 : Nat} (h : SZ n A c i ct) (hi : n ≤ i) (hc2 : c2 = c + 1) : SM n A c2 ct := fun i' j' q1 q2 => by
  subst hc2
  rw [h i' j' q1 q2, if_pos (by omega)]
theorem SZ_piv (hE : EH n A) {i c2 : Nat} (h : SZ n A c i ct) (hi : n ≤ i) (hc : c < n) {v : Int64} (hv : v = ct c c) (hc2 : c2 = c + 1) : v.toInt = eb A c2 := by
  subst hc2
  rw [hv, h c c hc (Or.inl hc), if_pos (by omega), e_bS, hE.row hc]
end SO
theorem tl_cmp0 {w : Int64} (h : lg_cmp w 0 = 0) : w.toInt = 0 := by
  have h1 := Int64.le_iff_toInt_le.mp ((lg_cmp_ge w 0).mp (by rw [h]; decide))
  have h2 := Int64.le_iff_toInt_le.mp ((lg_cmp_le w 0).mp (by rw [h]; decide))
  have z : (0 : Int64).toInt = 0 := by decide
  omega
theorem tl_nz {b : Int64} {B : Int} (h : b.toInt = B) (hB : 0 < B) : ¬ b = 0 := fun e => by
  rw [e] at h
  have z : (0 : Int64).toInt = 0 := by decide
  omega
theorem tl_nz0 {b : Int64} (h : ¬ b = 0) : ¬ b.toInt = 0 := fun e => h (Int64.toInt_inj.mp (e.trans (by decide)))
/-! the common divisor -/
def GD (a b x y : Int) : Prop := (∀ d : Int, d ∣ x → d ∣ y → d ∣ a ∧ d ∣ b) ∧ ¬ (x = 0 ∧ y = 0) ∧ (0 ≤ a → 0 ≤ x ∧ 0 ≤ y)
theorem GD_start {a b : Int} (hb : 0 < b) : GD a b a b := ⟨fun _ h1 h2 => ⟨h1, h2⟩, fun h => by omega, fun h => ⟨h, by omega⟩⟩
theorem tl_tmod (a : Int) {b : Int} (h : ¬ b = 0) : (a.tmod b).natAbs < b.natAbs := by
  rw [Int.natAbs_tmod]
  exact Nat.mod_lt _ (Int.natAbs_pos.mpr h)
theorem tl_rem {x y z : Int64} (hz : z = x - x / y * y) (hy : ¬ y = 0) : ∃ q : Int, x.toInt = q * y.toInt + z.toInt ∧ z.toInt.natAbs < y.toInt.natAbs ∧ (0 ≤ x.toInt → 0 ≤ z.toInt) := by
  have hy0 := tl_nz0 hy
  have bx := tl_any x
  have b_y := tl_any y
  have h1 : z.toInt = x.toInt.tmod y.toInt := by
    rw [hz, Int64.toInt_sub, Int64.toInt_mul, Int64.toInt_div]
    have e := Int.tmod_add_mul_tdiv x.toInt y.toInt
    have m1 := tl_tmod x.toInt hy0
    have e2 : x.toInt - x.toInt.tdiv y.toInt * y.toInt = x.toInt.tmod y.toInt := by grind
    rw [← e2]
    simp only [Int.sub_bmod_bmod, Int.bmod_mul_bmod]
    rw [e2]
    exact tl_bmod (by omega) (by omega)
  refine ⟨x.toInt.tdiv y.toInt, ?_, ?_, ?_⟩
  · rw [h1]
    have e := Int.tmod_add_mul_tdiv x.toInt y.toInt
    grind
  · rw [h1]; exact tl_tmod x.toInt hy0
  · intro h; rw [h1]; exact Int.tmod_nonneg _ h
theorem GD_next {a b : Int} {x y z : Int64} (h : GD a b x.toInt y.toInt) (hz : z = x - x / y * y) (hy : ¬ y = 0) : GD a b y.toInt z.toInt := by
  obtain ⟨q, e, -, hn⟩ := tl_rem hz hy
  refine ⟨fun d h1 h2 => h.1 d ?_ h1, fun h1 => tl_nz0 hy h1.1, fun ha => ⟨(h.2.2 ha).2, hn (h.2.2 ha).1⟩⟩
  rw [e]
  exact Int.dvd_add (Int.dvd_mul_of_dvd_right h1) h2
theorem GD_end {a b x y : Int} (h : GD a b x y) (hy : y = 0) : ¬ x = 0 ∧ x ∣ a ∧ x ∣ b ∧ (0 ≤ a → 0 < x) := by
  subst hy
  have h0 : ¬ x = 0 := fun e => h.2.1 ⟨e, rfl⟩
  obtain ⟨h1, h2⟩ := h.1 x (Int.dvd_refl x) (Int.dvd_zero x)
  exact ⟨h0, h1, h2, fun ha => by have := (h.2.2 ha).1; omega⟩
theorem qw_130 : Cond.fieldLink RX12 55 "ChanceRingsModel" "m" "[[J" ∈ wsL_law := tseg_5 (by decide +kernel) (List.mem_of_getElem? (i := 151) (by decide +kernel))
theorem dX12_divisor_0 : decode cX12_divisor 0 = .ok (.lload_n 0, 1) := by decide +kernel
theorem dX12_divisor_1 : decode cX12_divisor 1 = .ok (.lstore 4, 2) := by decide +kernel
theorem dX12_divisor_3 : decode cX12_divisor 3 = .ok (.lload_n 2, 1) := by decide +kernel
theorem dX12_divisor_4 : decode cX12_divisor 4 = .ok (.lstore 6, 2) := by decide +kernel
theorem dX12_divisor_6 : decode cX12_divisor 6 = .ok (.lload 6, 2) := by decide +kernel
theorem dX12_divisor_8 : decode cX12_divisor 8 = .ok (.lconst 0, 1) := by decide +kernel
theorem dX12_divisor_9 : decode cX12_divisor 9 = .ok (.lcmp, 1) := by decide +kernel
theorem dX12_divisor_10 : decode cX12_divisor 10 = .ok (.ifCond .eq 21, 3) := by decide +kernel
theorem dX12_divisor_13 : decode cX12_divisor 13 = .ok (.lload 4, 2) := by decide +kernel
theorem dX12_divisor_15 : decode cX12_divisor 15 = .ok (.lload 6, 2) := by decide +kernel
theorem dX12_divisor_17 : decode cX12_divisor 17 = .ok (.lrem, 1) := by decide +kernel
theorem dX12_divisor_18 : decode cX12_divisor 18 = .ok (.lstore 8, 2) := by decide +kernel
theorem dX12_divisor_20 : decode cX12_divisor 20 = .ok (.lload 6, 2) := by decide +kernel
theorem dX12_divisor_22 : decode cX12_divisor 22 = .ok (.lstore 4, 2) := by decide +kernel
theorem dX12_divisor_24 : decode cX12_divisor 24 = .ok (.lload 8, 2) := by decide +kernel
theorem dX12_divisor_26 : decode cX12_divisor 26 = .ok (.lstore 6, 2) := by decide +kernel
theorem dX12_divisor_28 : decode cX12_divisor 28 = .ok (.goto (-22), 3) := by decide +kernel
theorem dX12_divisor_31 : decode cX12_divisor 31 = .ok (.lload 4, 2) := by decide +kernel
theorem dX12_divisor_33 : decode cX12_divisor 33 = .ok (.lreturn, 1) := by decide +kernel
theorem dX12_solves_0 : decode cX12_solves 0 = .ok (.lconst 1, 1) := by decide +kernel
theorem dX12_solves_1 : decode cX12_solves 1 = .ok (.lstore_n 2, 1) := by decide +kernel
theorem dX12_solves_2 : decode cX12_solves 2 = .ok (.iconst 0, 1) := by decide +kernel
theorem dX12_solves_3 : decode cX12_solves 3 = .ok (.istore 4, 2) := by decide +kernel
theorem dX12_solves_5 : decode cX12_solves 5 = .ok (.iload 4, 2) := by decide +kernel
theorem dX12_solves_7 : decode cX12_solves 7 = .ok (.iload_n 1, 1) := by decide +kernel
theorem dX12_solves_8 : decode cX12_solves 8 = .ok (.if_icmp .ge 276, 3) := by decide +kernel
theorem dX12_solves_11 : decode cX12_solves 11 = .ok (.iload 4, 2) := by decide +kernel
theorem dX12_solves_13 : decode cX12_solves 13 = .ok (.istore 5, 2) := by decide +kernel
theorem dX12_solves_15 : decode cX12_solves 15 = .ok (.aload_n 0, 1) := by decide +kernel
theorem dX12_solves_16 : decode cX12_solves 16 = .ok (.getfield 55, 3) := by decide +kernel
theorem dX12_solves_19 : decode cX12_solves 19 = .ok (.iload 5, 2) := by decide +kernel
theorem dX12_solves_21 : decode cX12_solves 21 = .ok (.aaload, 1) := by decide +kernel
theorem dX12_solves_22 : decode cX12_solves 22 = .ok (.iload 4, 2) := by decide +kernel
theorem dX12_solves_24 : decode cX12_solves 24 = .ok (.laload, 1) := by decide +kernel
theorem dX12_solves_25 : decode cX12_solves 25 = .ok (.lconst 0, 1) := by decide +kernel
theorem dX12_solves_26 : decode cX12_solves 26 = .ok (.lcmp, 1) := by decide +kernel
theorem dX12_solves_27 : decode cX12_solves 27 = .ok (.ifCond .ne 9, 3) := by decide +kernel
theorem dX12_solves_36 : decode cX12_solves 36 = .ok (.iconst 0, 1) := by decide +kernel
theorem dX12_solves_37 : decode cX12_solves 37 = .ok (.istore 6, 2) := by decide +kernel
theorem dX12_solves_39 : decode cX12_solves 39 = .ok (.iload 6, 2) := by decide +kernel
theorem dX12_solves_41 : decode cX12_solves 41 = .ok (.iload_n 1, 1) := by decide +kernel
theorem dX12_solves_42 : decode cX12_solves 42 = .ok (.if_icmp .gt 61, 3) := by decide +kernel
theorem dX12_solves_45 : decode cX12_solves 45 = .ok (.iload 5, 2) := by decide +kernel
theorem dX12_solves_47 : decode cX12_solves 47 = .ok (.iload 4, 2) := by decide +kernel
theorem dX12_solves_49 : decode cX12_solves 49 = .ok (.if_icmp .eq 54, 3) := by decide +kernel
theorem dX12_solves_103 : decode cX12_solves 103 = .ok (.iconst 0, 1) := by decide +kernel
theorem dX12_solves_104 : decode cX12_solves 104 = .ok (.istore 6, 2) := by decide +kernel
theorem dX12_solves_106 : decode cX12_solves 106 = .ok (.iload 6, 2) := by decide +kernel
theorem dX12_solves_108 : decode cX12_solves 108 = .ok (.iload_n 1, 1) := by decide +kernel
theorem dX12_solves_109 : decode cX12_solves 109 = .ok (.if_icmp .ge 95, 3) := by decide +kernel
theorem dX12_solves_112 : decode cX12_solves 112 = .ok (.iload_n 1, 1) := by decide +kernel
theorem dX12_solves_113 : decode cX12_solves 113 = .ok (.istore 7, 2) := by decide +kernel
theorem dX12_solves_115 : decode cX12_solves 115 = .ok (.iload 7, 2) := by decide +kernel
theorem dX12_solves_117 : decode cX12_solves 117 = .ok (.ifCond .lt 81, 3) := by decide +kernel
theorem dX12_solves_120 : decode cX12_solves 120 = .ok (.iload 6, 2) := by decide +kernel
theorem dX12_solves_122 : decode cX12_solves 122 = .ok (.iload 4, 2) := by decide +kernel
theorem dX12_solves_124 : decode cX12_solves 124 = .ok (.if_icmp .eq 68, 3) := by decide +kernel
theorem dX12_solves_127 : decode cX12_solves 127 = .ok (.iload 7, 2) := by decide +kernel
theorem dX12_solves_129 : decode cX12_solves 129 = .ok (.iload 4, 2) := by decide +kernel
theorem dX12_solves_131 : decode cX12_solves 131 = .ok (.if_icmp .ne 6, 3) := by decide +kernel
theorem dX12_solves_134 : decode cX12_solves 134 = .ok (.goto 58, 3) := by decide +kernel
theorem dX12_solves_137 : decode cX12_solves 137 = .ok (.aload_n 0, 1) := by decide +kernel
theorem dX12_solves_138 : decode cX12_solves 138 = .ok (.getfield 55, 3) := by decide +kernel
theorem dX12_solves_141 : decode cX12_solves 141 = .ok (.iload 6, 2) := by decide +kernel
theorem dX12_solves_143 : decode cX12_solves 143 = .ok (.aaload, 1) := by decide +kernel
theorem dX12_solves_144 : decode cX12_solves 144 = .ok (.iload 7, 2) := by decide +kernel
theorem dX12_solves_146 : decode cX12_solves 146 = .ok (.aload_n 0, 1) := by decide +kernel
theorem dX12_solves_147 : decode cX12_solves 147 = .ok (.getfield 55, 3) := by decide +kernel
theorem dX12_solves_150 : decode cX12_solves 150 = .ok (.iload 6, 2) := by decide +kernel
theorem dX12_solves_152 : decode cX12_solves 152 = .ok (.aaload, 1) := by decide +kernel
theorem dX12_solves_153 : decode cX12_solves 153 = .ok (.iload 7, 2) := by decide +kernel
theorem dX12_solves_155 : decode cX12_solves 155 = .ok (.laload, 1) := by decide +kernel
theorem dX12_solves_156 : decode cX12_solves 156 = .ok (.aload_n 0, 1) := by decide +kernel
theorem dX12_solves_157 : decode cX12_solves 157 = .ok (.getfield 55, 3) := by decide +kernel
theorem dX12_solves_160 : decode cX12_solves 160 = .ok (.iload 4, 2) := by decide +kernel
theorem dX12_solves_162 : decode cX12_solves 162 = .ok (.aaload, 1) := by decide +kernel
theorem dX12_solves_163 : decode cX12_solves 163 = .ok (.iload 4, 2) := by decide +kernel
theorem dX12_solves_165 : decode cX12_solves 165 = .ok (.laload, 1) := by decide +kernel
theorem dX12_solves_166 : decode cX12_solves 166 = .ok (.lmul, 1) := by decide +kernel
theorem dX12_solves_167 : decode cX12_solves 167 = .ok (.aload_n 0, 1) := by decide +kernel
theorem dX12_solves_168 : decode cX12_solves 168 = .ok (.getfield 55, 3) := by decide +kernel
theorem dX12_solves_171 : decode cX12_solves 171 = .ok (.iload 6, 2) := by decide +kernel
theorem dX12_solves_173 : decode cX12_solves 173 = .ok (.aaload, 1) := by decide +kernel
theorem dX12_solves_174 : decode cX12_solves 174 = .ok (.iload 4, 2) := by decide +kernel
theorem dX12_solves_176 : decode cX12_solves 176 = .ok (.laload, 1) := by decide +kernel
theorem dX12_solves_177 : decode cX12_solves 177 = .ok (.aload_n 0, 1) := by decide +kernel
theorem dX12_solves_178 : decode cX12_solves 178 = .ok (.getfield 55, 3) := by decide +kernel
theorem dX12_solves_181 : decode cX12_solves 181 = .ok (.iload 4, 2) := by decide +kernel
theorem dX12_solves_183 : decode cX12_solves 183 = .ok (.aaload, 1) := by decide +kernel
theorem dX12_solves_184 : decode cX12_solves 184 = .ok (.iload 7, 2) := by decide +kernel
theorem dX12_solves_186 : decode cX12_solves 186 = .ok (.laload, 1) := by decide +kernel
theorem dX12_solves_187 : decode cX12_solves 187 = .ok (.lmul, 1) := by decide +kernel
theorem dX12_solves_188 : decode cX12_solves 188 = .ok (.lsub, 1) := by decide +kernel
theorem dX12_solves_189 : decode cX12_solves 189 = .ok (.lload_n 2, 1) := by decide +kernel
theorem dX12_solves_190 : decode cX12_solves 190 = .ok (.ldiv, 1) := by decide +kernel
theorem dX12_solves_191 : decode cX12_solves 191 = .ok (.lastore, 1) := by decide +kernel
theorem dX12_solves_192 : decode cX12_solves 192 = .ok (.iinc 7 (-1), 3) := by decide +kernel
theorem dX12_solves_195 : decode cX12_solves 195 = .ok (.goto (-80), 3) := by decide +kernel
theorem dX12_solves_198 : decode cX12_solves 198 = .ok (.iinc 6 1, 3) := by decide +kernel
theorem dX12_solves_201 : decode cX12_solves 201 = .ok (.goto (-95), 3) := by decide +kernel
theorem dX12_solves_204 : decode cX12_solves 204 = .ok (.iconst 0, 1) := by decide +kernel
theorem dX12_solves_205 : decode cX12_solves 205 = .ok (.istore 6, 2) := by decide +kernel
theorem dX12_solves_207 : decode cX12_solves 207 = .ok (.iload 6, 2) := by decide +kernel
theorem dX12_solves_209 : decode cX12_solves 209 = .ok (.iload_n 1, 1) := by decide +kernel
theorem dX12_solves_210 : decode cX12_solves 210 = .ok (.if_icmp .ge 57, 3) := by decide +kernel
theorem dX12_solves_213 : decode cX12_solves 213 = .ok (.iload 6, 2) := by decide +kernel
theorem dX12_solves_215 : decode cX12_solves 215 = .ok (.iload 4, 2) := by decide +kernel
theorem dX12_solves_217 : decode cX12_solves 217 = .ok (.if_icmp .ne 6, 3) := by decide +kernel
theorem dX12_solves_220 : decode cX12_solves 220 = .ok (.goto 41, 3) := by decide +kernel
theorem dX12_solves_223 : decode cX12_solves 223 = .ok (.aload_n 0, 1) := by decide +kernel
theorem dX12_solves_224 : decode cX12_solves 224 = .ok (.getfield 55, 3) := by decide +kernel
theorem dX12_solves_227 : decode cX12_solves 227 = .ok (.iload 6, 2) := by decide +kernel
theorem dX12_solves_229 : decode cX12_solves 229 = .ok (.aaload, 1) := by decide +kernel
theorem dX12_solves_230 : decode cX12_solves 230 = .ok (.iload 4, 2) := by decide +kernel
theorem dX12_solves_232 : decode cX12_solves 232 = .ok (.lconst 0, 1) := by decide +kernel
theorem dX12_solves_233 : decode cX12_solves 233 = .ok (.lastore, 1) := by decide +kernel
theorem dX12_solves_234 : decode cX12_solves 234 = .ok (.iload 6, 2) := by decide +kernel
theorem dX12_solves_236 : decode cX12_solves 236 = .ok (.iload 4, 2) := by decide +kernel
theorem dX12_solves_238 : decode cX12_solves 238 = .ok (.if_icmp .ge 23, 3) := by decide +kernel
theorem dX12_solves_241 : decode cX12_solves 241 = .ok (.aload_n 0, 1) := by decide +kernel
theorem dX12_solves_242 : decode cX12_solves 242 = .ok (.getfield 55, 3) := by decide +kernel
theorem dX12_solves_245 : decode cX12_solves 245 = .ok (.iload 6, 2) := by decide +kernel
theorem dX12_solves_247 : decode cX12_solves 247 = .ok (.aaload, 1) := by decide +kernel
theorem dX12_solves_248 : decode cX12_solves 248 = .ok (.iload 6, 2) := by decide +kernel
theorem dX12_solves_250 : decode cX12_solves 250 = .ok (.aload_n 0, 1) := by decide +kernel
theorem dX12_solves_251 : decode cX12_solves 251 = .ok (.getfield 55, 3) := by decide +kernel
theorem dX12_solves_254 : decode cX12_solves 254 = .ok (.iload 4, 2) := by decide +kernel
theorem dX12_solves_256 : decode cX12_solves 256 = .ok (.aaload, 1) := by decide +kernel
theorem dX12_solves_257 : decode cX12_solves 257 = .ok (.iload 4, 2) := by decide +kernel
theorem dX12_solves_259 : decode cX12_solves 259 = .ok (.laload, 1) := by decide +kernel
theorem dX12_solves_260 : decode cX12_solves 260 = .ok (.lastore, 1) := by decide +kernel
theorem dX12_solves_261 : decode cX12_solves 261 = .ok (.iinc 6 1, 3) := by decide +kernel
theorem dX12_solves_264 : decode cX12_solves 264 = .ok (.goto (-57), 3) := by decide +kernel
theorem dX12_solves_267 : decode cX12_solves 267 = .ok (.aload_n 0, 1) := by decide +kernel
theorem dX12_solves_268 : decode cX12_solves 268 = .ok (.getfield 55, 3) := by decide +kernel
theorem dX12_solves_271 : decode cX12_solves 271 = .ok (.iload 4, 2) := by decide +kernel
theorem dX12_solves_273 : decode cX12_solves 273 = .ok (.aaload, 1) := by decide +kernel
theorem dX12_solves_274 : decode cX12_solves 274 = .ok (.iload 4, 2) := by decide +kernel
theorem dX12_solves_276 : decode cX12_solves 276 = .ok (.laload, 1) := by decide +kernel
theorem dX12_solves_277 : decode cX12_solves 277 = .ok (.lstore_n 2, 1) := by decide +kernel
theorem dX12_solves_278 : decode cX12_solves 278 = .ok (.iinc 4 1, 3) := by decide +kernel
theorem dX12_solves_281 : decode cX12_solves 281 = .ok (.goto (-276), 3) := by decide +kernel
theorem dX12_solves_284 : decode cX12_solves 284 = .ok (.lload_n 2, 1) := by decide +kernel
theorem dX12_solves_285 : decode cX12_solves 285 = .ok (.lreturn, 1) := by decide +kernel
set_option maxHeartbeats 4000000 in
set_option maxRecDepth 100000 in
theorem c_X12_divisor (l : Launch) (D : va_G) (g : Nat → ClassId) (a0 : Int64) (b0 : Int64) (hb0 : 0 < (b0 : Int64).toInt) : Met l yX12_divisor (.code yX12_divisor cX12_divisor 10 (some .long) :: wsL_law) ({ frames := 0, cells := 0, slots := 0, locals := 0 }) (va_Pc [.long a0, .long b0] (fun U => va_P D vwCl [] U.heap ∧ va_K D vwCl (TY g) U)) (vp_Sl (fun r => (True) ∧ (¬ (r : Int64).toInt = 0 ∧ (r : Int64).toInt ∣ (a0 : Int64).toInt ∧ (r : Int64).toInt ∣ (b0 : Int64).toInt ∧ (0 ≤ (a0 : Int64).toInt → 0 < (r : Int64).toInt)))) 0 0 (fun _ => False) := by
  refine Met.ofW (cc := cX12_divisor) (maxL := 10) (ret := (some .long)) (by decide) rfl ?_
  intro p e s m args below meth c s₁ B hml hv
  obtain ⟨ha, hP, hK⟩ := hv
  have hx := B.exec
  have hb := B.bytes
  have hr := B.returns
  have hts0 := atoms_spec (ws := (.code yX12_divisor cX12_divisor 10 (some .long) :: wsL_law)) B.pre
  have hts : ∀ w ∈ wsL_law, w.before args s = true := fun w h => hts0 w (List.mem_cons_of_mem _ h)
  have hown : s.vm.findClass RX12 = some m.cls := findClass_of_methodNamed B.named
  have hlocks := B.notSynchronized
  have hP : va_P D vwCl [] s.heap := hP
  refine W.eq (g2 := entryFrame m ([.long a0, .long b0] : List Value).toArray 10) (by rw [ha]) ?_
  have hl := lv_entry ([.long a0, .long b0]) (n := 10) (Nat.le_of_ble_eq_true rfl)
  rw [lg_entry_eq]
  generalize (lg_sl ([.long a0, .long b0]) ++ List.replicate (10 - (lg_sl ([.long a0, .long b0])).length) Slot.unset).toArray = ls at hl ⊢
  have hl : lv_has ls 10 [(0, .long a0), (2, .long b0)] := hl
  have tla := tl_any b0
  refine lv_lload_n hx hb dX12_divisor_0 rfl (lv_at hl 0 rfl) ?_
  refine lv_lstore (lv' := [(4, .long a0), (0, .long a0), (2, .long b0)]) hx hb dX12_divisor_1 hl (by decide) rfl (fun ls hl => ?_)
  refine lv_lload_n hx hb dX12_divisor_3 rfl (lv_at hl 2 rfl) ?_
  refine lv_lstore (lv' := [(6, .long b0), (4, .long a0), (0, .long a0), (2, .long b0)]) hx hb dX12_divisor_4 hl (by decide) rfl (fun ls hl => ?_)
  have lp_7617 : ∀ (n_7617 : Nat) (x_7615 : Int64) (x_7616 : Int64) (ls : Array Slot), (GD (a0 : Int64).toInt (b0 : Int64).toInt (x_7616 : Int64).toInt (x_7615 : Int64).toInt) → (((x_7615.toInt.natAbs : Nat) : Int) < (n_7617 : Int)) → lv_has ls 10 [(6, .long x_7615), (4, .long x_7616), (0, .long a0), (2, .long b0)] → W p l e (headSpec (.code yX12_divisor cX12_divisor 10 (some .long) :: wsL_law) ({ frames := 0, cells := 0, slots := 0, locals := 0 })).room s m args below meth c s.heap [] 0 0 (MQ below (vp_Sl (fun r => (True) ∧ (¬ (r : Int64).toInt = 0 ∧ (r : Int64).toInt ∣ (a0 : Int64).toInt ∧ (r : Int64).toInt ∣ (b0 : Int64).toInt ∧ (0 ≤ (a0 : Int64).toInt → 0 < (r : Int64).toInt)))) args s 0 0 (fun _ => False)) (F0 m 6 ls []) := by
    intro n_7617
    induction n_7617 with
    | zero =>
      intro x_7615 x_7616 ls hr7617_0 hm_7617 hl
      exfalso; omega
    | succ n_7617 ih_7617 =>
      intro x_7615 x_7616 ls hr7617_0 hm_7617 hl
      refine lv_lload hx hb dX12_divisor_6 (lv_at hl 0 rfl) ?_
      refine lv_lconst (v := 0) hx hb dX12_divisor_8 (by decide) ?_
      refine W.lcmp hx hb dX12_divisor_9 ?_
      refine lv_topi (fun v_7618 v_7618_e => ?_)
      have h_v_7618 : (-1) ≤ (v_7618 : Int32).toInt ∧ (v_7618 : Int32).toInt ≤ 1 := by rw [v_7618_e]; exact tr_cmp _ _
      refine lv_if_eq (tgt := 31) hx hb dX12_divisor_10 (by decide) (fun c_7619 => ?_) (fun c_7619 => ?_)
      · skip
        have c_7619_i : (v_7618 : Int32).toInt = (0 : Int32).toInt := congrArg Int32.toInt c_7619
        have h_7620 : 0 ≤ (v_7618 : Int32).toInt ∧ (v_7618 : Int32).toInt ≤ 0 := nr_eq_l h_v_7618 (⟨by decide, by decide⟩ : 0 ≤ (0 : Int32).toInt ∧ (0 : Int32).toInt ≤ 0) c_7619_i (by decide) (by decide)
        refine lv_lload hx hb dX12_divisor_31 (lv_at hl 1 rfl) ?_
        exact W.lret (v := x_7616) hx hb hr (fun t ht hW => ⟨x_7616, rfl, ⟨trivial, (GD_end hr7617_0 (tl_cmp0 (by rw [← v_7618_e]; exact c_7619)))⟩, ht⟩) (fun _ h => nomatch h) dX12_divisor_33
      · skip
        have z_7621 : ¬ x_7615 = 0 := tr_cmp0 (by rw [← v_7618_e]; exact c_7619)
        refine lv_lload hx hb dX12_divisor_13 (lv_at hl 1 rfl) ?_
        refine lv_lload hx hb dX12_divisor_15 (lv_at hl 0 rfl) ?_
        refine lv_lrem hx hb dX12_divisor_17 z_7621 ?_
        refine lv_topl (fun w_7622 w_7622_e => ?_)
        refine lv_lstore (lv' := [(8, .long w_7622), (6, .long x_7615), (4, .long x_7616), (0, .long a0), (2, .long b0)]) hx hb dX12_divisor_18 hl (by decide) rfl (fun ls hl => ?_)
        have dv_q := tl_rem w_7622_e z_7621
        obtain ⟨dv_a, dv_b, dv_c, dv_d⟩ := dv_q
        refine lv_lload hx hb dX12_divisor_20 (lv_at hl 1 rfl) ?_
        refine lv_lstore (lv' := [(4, .long x_7615), (8, .long w_7622), (6, .long x_7615), (0, .long a0), (2, .long b0)]) hx hb dX12_divisor_22 hl (by decide) rfl (fun ls hl => ?_)
        refine lv_lload hx hb dX12_divisor_24 (lv_at hl 1 rfl) ?_
        refine lv_lstore (lv' := [(6, .long w_7622), (4, .long x_7615), (8, .long w_7622), (0, .long a0), (2, .long b0)]) hx hb dX12_divisor_26 hl (by decide) rfl (fun ls hl => ?_)
        refine lv_goto (tgt := 6) hx hb dX12_divisor_28 (by decide) ?_
        exact ih_7617 w_7622 x_7615 ls (GD_next hr7617_0 w_7622_e z_7621) (by omega) (lv_sub hl [0, 1, 3, 4] rfl)
  exact lp_7617 9223372036854775809 b0 a0 ls (GD_start hb0) (by omega) (lv_sub hl [0, 1, 2, 3] rfl)
set_option maxHeartbeats 4000000 in
set_option maxRecDepth 100000 in
theorem c_X12_solves (l : Launch) (D : va_G) (g : Nat → ClassId) (sz : Nat) (mm : Nat) (p0 : Int32) (i_thrown : Int32) (m_s : Nat) (m_spare : Nat) (m_kept : Nat) (m_undone : Nat) (m_triedWay : Nat) (m_isKept : Nat) (i_undoMany : Int32) (m_tape : Nat) (i_length : Int32) (i_size : Int32) (i_p : Int32) (i_at : Int32) (i_token : Int32) (i_number : Int32) (i_letterMany : Int32) (i_fault : Int32) (i_faultAt : Int32) (m_letters : Nat) (i_isKnown : Int32) (m_choice : Nat) (m_row : Nat) (m_up : Nat) (m_low : Nat) (m_m : Nat) (m_bestUp : Nat) (m_bestLow : Nat) (m_replyUp : Nat) (m_replyLow : Nat) (m_worthUp : Nat) (m_worthLow : Nat) (m_bestWay : Nat) (i_seed : Int32) (m_told : Nat) (i_toldMany : Int32) (rr : Nat → Nat) (ct : Nat → Nat → Int64) (h_p0 : 0 ≤ (p0 : Int32).toInt ∧ (p0 : Int32).toInt ≤ 12) (h_i_undoMany : 0 ≤ (i_undoMany : Int32).toInt ∧ (i_undoMany : Int32).toInt ≤ 8) (h_i_length : 0 ≤ (i_length : Int32).toInt ∧ (i_length : Int32).toInt ≤ 440) (h_i_size : 0 ≤ (i_size : Int32).toInt ∧ (i_size : Int32).toInt ≤ 440) (h_i_p : 0 ≤ (i_p : Int32).toInt ∧ (i_p : Int32).toInt ≤ 440) (h_i_at : 0 ≤ (i_at : Int32).toInt ∧ (i_at : Int32).toInt ≤ 440) (h_i_token : 0 ≤ (i_token : Int32).toInt ∧ (i_token : Int32).toInt ≤ 4) (h_i_number : 0 ≤ (i_number : Int32).toInt ∧ (i_number : Int32).toInt ≤ 814) (h_i_letterMany : (-440) ≤ (i_letterMany : Int32).toInt ∧ (i_letterMany : Int32).toInt ≤ 440) (h_i_faultAt : 0 ≤ (i_faultAt : Int32).toInt ∧ (i_faultAt : Int32).toInt ≤ 440) (h_i_isKnown : 0 ≤ (i_isKnown : Int32).toInt ∧ (i_isKnown : Int32).toInt ≤ 1) (h_i_toldMany : 0 ≤ (i_toldMany : Int32).toInt ∧ (i_toldMany : Int32).toInt ≤ 900) (hE : EH (p0 : Int32).toInt.toNat (tI ct)) : Met l yX12_solves (.code yX12_solves cX12_solves 9 (some .long) :: wsL_law) ({ frames := 0, cells := 0, slots := 0, locals := 0 }) (va_Pc [.ref mm, .int p0] (fun U => U.heap.size = sz ∧ va_P D vwCl [(mm, .inr (12, (.int i_thrown :: .ref m_s :: .ref m_spare :: .ref m_kept :: .ref m_undone :: .ref m_triedWay :: .ref m_isKept :: .int i_undoMany :: .ref m_tape :: .int i_length :: .int i_size :: .int i_p :: .int i_at :: .int i_token :: .int i_number :: .int i_letterMany :: .int i_fault :: .int i_faultAt :: .ref m_letters :: .int i_isKnown :: .ref m_choice :: .ref m_row :: .ref m_up :: .ref m_low :: .ref m_m :: .ref m_bestUp :: .ref m_bestLow :: .ref m_replyUp :: .ref m_replyLow :: .ref m_worthUp :: .ref m_worthLow :: .ref m_bestWay :: .int i_seed :: .ref m_told :: .int i_toldMany :: []))), (m_m, .inl (g 5, 12, .inr (.inr (.inr (.inr (fun i => if i < 12 then some (rr i) else none)))))), ((rr 0), .inl (g 1, 13, .inr (.inl (ct 0)))), ((rr 1), .inl (g 1, 13, .inr (.inl (ct 1)))), ((rr 2), .inl (g 1, 13, .inr (.inl (ct 2)))), ((rr 3), .inl (g 1, 13, .inr (.inl (ct 3)))), ((rr 4), .inl (g 1, 13, .inr (.inl (ct 4)))), ((rr 5), .inl (g 1, 13, .inr (.inl (ct 5)))), ((rr 6), .inl (g 1, 13, .inr (.inl (ct 6)))), ((rr 7), .inl (g 1, 13, .inr (.inl (ct 7)))), ((rr 8), .inl (g 1, 13, .inr (.inl (ct 8)))), ((rr 9), .inl (g 1, 13, .inr (.inl (ct 9)))), ((rr 10), .inl (g 1, 13, .inr (.inl (ct 10)))), ((rr 11), .inl (g 1, 13, .inr (.inl (ct 11))))] U.heap ∧ va_K D vwCl (TY g) U ∧ va_D (fun _ => True) [(mm, .inr (12, (.int i_thrown :: .ref m_s :: .ref m_spare :: .ref m_kept :: .ref m_undone :: .ref m_triedWay :: .ref m_isKept :: .int i_undoMany :: .ref m_tape :: .int i_length :: .int i_size :: .int i_p :: .int i_at :: .int i_token :: .int i_number :: .int i_letterMany :: .int i_fault :: .int i_faultAt :: .ref m_letters :: .int i_isKnown :: .ref m_choice :: .ref m_row :: .ref m_up :: .ref m_low :: .ref m_m :: .ref m_bestUp :: .ref m_bestLow :: .ref m_replyUp :: .ref m_replyLow :: .ref m_worthUp :: .ref m_worthLow :: .ref m_bestWay :: .int i_seed :: .ref m_told :: .int i_toldMany :: []))), (m_m, .inl (g 5, 12, .inr (.inr (.inr (.inr (fun i => if i < 12 then some (rr i) else none)))))), ((rr 0), .inl (g 1, 13, .inr (.inl (ct 0)))), ((rr 1), .inl (g 1, 13, .inr (.inl (ct 1)))), ((rr 2), .inl (g 1, 13, .inr (.inl (ct 2)))), ((rr 3), .inl (g 1, 13, .inr (.inl (ct 3)))), ((rr 4), .inl (g 1, 13, .inr (.inl (ct 4)))), ((rr 5), .inl (g 1, 13, .inr (.inl (ct 5)))), ((rr 6), .inl (g 1, 13, .inr (.inl (ct 6)))), ((rr 7), .inl (g 1, 13, .inr (.inl (ct 7)))), ((rr 8), .inl (g 1, 13, .inr (.inl (ct 8)))), ((rr 9), .inl (g 1, 13, .inr (.inl (ct 9)))), ((rr 10), .inl (g 1, 13, .inr (.inl (ct 10)))), ((rr 11), .inl (g 1, 13, .inr (.inl (ct 11))))])) (va_Ql (fun (r u : Int64) => u = r ∧ (True)) (fun r t => ∃ oct : Nat → Nat → Int64, (SM (p0 : Int32).toInt.toNat (tI ct) (p0 : Int32).toInt.toNat oct) ∧ ((r : Int64).toInt = eb (tI ct) (p0 : Int32).toInt.toNat) ∧ va_P D vwCl [(mm, .inr (12, (.int i_thrown :: .ref m_s :: .ref m_spare :: .ref m_kept :: .ref m_undone :: .ref m_triedWay :: .ref m_isKept :: .int i_undoMany :: .ref m_tape :: .int i_length :: .int i_size :: .int i_p :: .int i_at :: .int i_token :: .int i_number :: .int i_letterMany :: .int i_fault :: .int i_faultAt :: .ref m_letters :: .int i_isKnown :: .ref m_choice :: .ref m_row :: .ref m_up :: .ref m_low :: .ref m_m :: .ref m_bestUp :: .ref m_bestLow :: .ref m_replyUp :: .ref m_replyLow :: .ref m_worthUp :: .ref m_worthLow :: .ref m_bestWay :: .int i_seed :: .ref m_told :: .int i_toldMany :: []))), (m_m, .inl (g 5, 12, .inr (.inr (.inr (.inr (fun i => if i < 12 then some (rr i) else none)))))), ((rr 0), .inl (g 1, 13, .inr (.inl (oct 0)))), ((rr 1), .inl (g 1, 13, .inr (.inl (oct 1)))), ((rr 2), .inl (g 1, 13, .inr (.inl (oct 2)))), ((rr 3), .inl (g 1, 13, .inr (.inl (oct 3)))), ((rr 4), .inl (g 1, 13, .inr (.inl (oct 4)))), ((rr 5), .inl (g 1, 13, .inr (.inl (oct 5)))), ((rr 6), .inl (g 1, 13, .inr (.inl (oct 6)))), ((rr 7), .inl (g 1, 13, .inr (.inl (oct 7)))), ((rr 8), .inl (g 1, 13, .inr (.inl (oct 8)))), ((rr 9), .inl (g 1, 13, .inr (.inl (oct 9)))), ((rr 10), .inl (g 1, 13, .inr (.inl (oct 10)))), ((rr 11), .inl (g 1, 13, .inr (.inl (oct 11))))] t.heap ∧ va_D (va_A [(mm, .inr (12, (.int i_thrown :: .ref m_s :: .ref m_spare :: .ref m_kept :: .ref m_undone :: .ref m_triedWay :: .ref m_isKept :: .int i_undoMany :: .ref m_tape :: .int i_length :: .int i_size :: .int i_p :: .int i_at :: .int i_token :: .int i_number :: .int i_letterMany :: .int i_fault :: .int i_faultAt :: .ref m_letters :: .int i_isKnown :: .ref m_choice :: .ref m_row :: .ref m_up :: .ref m_low :: .ref m_m :: .ref m_bestUp :: .ref m_bestLow :: .ref m_replyUp :: .ref m_replyLow :: .ref m_worthUp :: .ref m_worthLow :: .ref m_bestWay :: .int i_seed :: .ref m_told :: .int i_toldMany :: []))), (m_m, .inl (g 5, 12, .inr (.inr (.inr (.inr (fun i => if i < 12 then some (rr i) else none)))))), ((rr 0), .inl (g 1, 13, .inr (.inl (ct 0)))), ((rr 1), .inl (g 1, 13, .inr (.inl (ct 1)))), ((rr 2), .inl (g 1, 13, .inr (.inl (ct 2)))), ((rr 3), .inl (g 1, 13, .inr (.inl (ct 3)))), ((rr 4), .inl (g 1, 13, .inr (.inl (ct 4)))), ((rr 5), .inl (g 1, 13, .inr (.inl (ct 5)))), ((rr 6), .inl (g 1, 13, .inr (.inl (ct 6)))), ((rr 7), .inl (g 1, 13, .inr (.inl (ct 7)))), ((rr 8), .inl (g 1, 13, .inr (.inl (ct 8)))), ((rr 9), .inl (g 1, 13, .inr (.inl (ct 9)))), ((rr 10), .inl (g 1, 13, .inr (.inl (ct 10)))), ((rr 11), .inl (g 1, 13, .inr (.inl (ct 11))))] sz) [(mm, .inr (12, (.int i_thrown :: .ref m_s :: .ref m_spare :: .ref m_kept :: .ref m_undone :: .ref m_triedWay :: .ref m_isKept :: .int i_undoMany :: .ref m_tape :: .int i_length :: .int i_size :: .int i_p :: .int i_at :: .int i_token :: .int i_number :: .int i_letterMany :: .int i_fault :: .int i_faultAt :: .ref m_letters :: .int i_isKnown :: .ref m_choice :: .ref m_row :: .ref m_up :: .ref m_low :: .ref m_m :: .ref m_bestUp :: .ref m_bestLow :: .ref m_replyUp :: .ref m_replyLow :: .ref m_worthUp :: .ref m_worthLow :: .ref m_bestWay :: .int i_seed :: .ref m_told :: .int i_toldMany :: []))), (m_m, .inl (g 5, 12, .inr (.inr (.inr (.inr (fun i => if i < 12 then some (rr i) else none)))))), ((rr 0), .inl (g 1, 13, .inr (.inl (oct 0)))), ((rr 1), .inl (g 1, 13, .inr (.inl (oct 1)))), ((rr 2), .inl (g 1, 13, .inr (.inl (oct 2)))), ((rr 3), .inl (g 1, 13, .inr (.inl (oct 3)))), ((rr 4), .inl (g 1, 13, .inr (.inl (oct 4)))), ((rr 5), .inl (g 1, 13, .inr (.inl (oct 5)))), ((rr 6), .inl (g 1, 13, .inr (.inl (oct 6)))), ((rr 7), .inl (g 1, 13, .inr (.inl (oct 7)))), ((rr 8), .inl (g 1, 13, .inr (.inl (oct 8)))), ((rr 9), .inl (g 1, 13, .inr (.inl (oct 9)))), ((rr 10), .inl (g 1, 13, .inr (.inl (oct 10)))), ((rr 11), .inl (g 1, 13, .inr (.inl (oct 11))))]) (va_A [(mm, .inr (12, (.int i_thrown :: .ref m_s :: .ref m_spare :: .ref m_kept :: .ref m_undone :: .ref m_triedWay :: .ref m_isKept :: .int i_undoMany :: .ref m_tape :: .int i_length :: .int i_size :: .int i_p :: .int i_at :: .int i_token :: .int i_number :: .int i_letterMany :: .int i_fault :: .int i_faultAt :: .ref m_letters :: .int i_isKnown :: .ref m_choice :: .ref m_row :: .ref m_up :: .ref m_low :: .ref m_m :: .ref m_bestUp :: .ref m_bestLow :: .ref m_replyUp :: .ref m_replyLow :: .ref m_worthUp :: .ref m_worthLow :: .ref m_bestWay :: .int i_seed :: .ref m_told :: .int i_toldMany :: []))), (m_m, .inl (g 5, 12, .inr (.inr (.inr (.inr (fun i => if i < 12 then some (rr i) else none)))))), ((rr 0), .inl (g 1, 13, .inr (.inl (ct 0)))), ((rr 1), .inl (g 1, 13, .inr (.inl (ct 1)))), ((rr 2), .inl (g 1, 13, .inr (.inl (ct 2)))), ((rr 3), .inl (g 1, 13, .inr (.inl (ct 3)))), ((rr 4), .inl (g 1, 13, .inr (.inl (ct 4)))), ((rr 5), .inl (g 1, 13, .inr (.inl (ct 5)))), ((rr 6), .inl (g 1, 13, .inr (.inl (ct 6)))), ((rr 7), .inl (g 1, 13, .inr (.inl (ct 7)))), ((rr 8), .inl (g 1, 13, .inr (.inl (ct 8)))), ((rr 9), .inl (g 1, 13, .inr (.inl (ct 9)))), ((rr 10), .inl (g 1, 13, .inr (.inl (ct 10)))), ((rr 11), .inl (g 1, 13, .inr (.inl (ct 11))))] sz)) 0 0 (va_A [(mm, .inr (12, (.int i_thrown :: .ref m_s :: .ref m_spare :: .ref m_kept :: .ref m_undone :: .ref m_triedWay :: .ref m_isKept :: .int i_undoMany :: .ref m_tape :: .int i_length :: .int i_size :: .int i_p :: .int i_at :: .int i_token :: .int i_number :: .int i_letterMany :: .int i_fault :: .int i_faultAt :: .ref m_letters :: .int i_isKnown :: .ref m_choice :: .ref m_row :: .ref m_up :: .ref m_low :: .ref m_m :: .ref m_bestUp :: .ref m_bestLow :: .ref m_replyUp :: .ref m_replyLow :: .ref m_worthUp :: .ref m_worthLow :: .ref m_bestWay :: .int i_seed :: .ref m_told :: .int i_toldMany :: []))), (m_m, .inl (g 5, 12, .inr (.inr (.inr (.inr (fun i => if i < 12 then some (rr i) else none)))))), ((rr 0), .inl (g 1, 13, .inr (.inl (ct 0)))), ((rr 1), .inl (g 1, 13, .inr (.inl (ct 1)))), ((rr 2), .inl (g 1, 13, .inr (.inl (ct 2)))), ((rr 3), .inl (g 1, 13, .inr (.inl (ct 3)))), ((rr 4), .inl (g 1, 13, .inr (.inl (ct 4)))), ((rr 5), .inl (g 1, 13, .inr (.inl (ct 5)))), ((rr 6), .inl (g 1, 13, .inr (.inl (ct 6)))), ((rr 7), .inl (g 1, 13, .inr (.inl (ct 7)))), ((rr 8), .inl (g 1, 13, .inr (.inl (ct 8)))), ((rr 9), .inl (g 1, 13, .inr (.inl (ct 9)))), ((rr 10), .inl (g 1, 13, .inr (.inl (ct 10)))), ((rr 11), .inl (g 1, 13, .inr (.inl (ct 11))))] sz) := by
  refine Met.ofW (cc := cX12_solves) (maxL := 9) (ret := (some .long)) (by decide) rfl ?_
  intro p e s m args below meth c s₁ B hml hv
  obtain ⟨ha, hsz, hP, hK, hD0⟩ := hv
  have hx := B.exec
  have hb := B.bytes
  have hr := B.returns
  have hts0 := atoms_spec (ws := (.code yX12_solves cX12_solves 9 (some .long) :: wsL_law)) B.pre
  have hts : ∀ w ∈ wsL_law, w.before args s = true := fun w h => hts0 w (List.mem_cons_of_mem _ h)
  have hown : s.vm.findClass RX12 = some m.cls := findClass_of_methodNamed B.named
  have hlocks := B.notSynchronized
  subst hsz
  have hD := hD0.self (sz := s.heap.size)
  generalize hAe : va_A [(mm, .inr (12, (.int i_thrown :: .ref m_s :: .ref m_spare :: .ref m_kept :: .ref m_undone :: .ref m_triedWay :: .ref m_isKept :: .int i_undoMany :: .ref m_tape :: .int i_length :: .int i_size :: .int i_p :: .int i_at :: .int i_token :: .int i_number :: .int i_letterMany :: .int i_fault :: .int i_faultAt :: .ref m_letters :: .int i_isKnown :: .ref m_choice :: .ref m_row :: .ref m_up :: .ref m_low :: .ref m_m :: .ref m_bestUp :: .ref m_bestLow :: .ref m_replyUp :: .ref m_replyLow :: .ref m_worthUp :: .ref m_worthLow :: .ref m_bestWay :: .int i_seed :: .ref m_told :: .int i_toldMany :: []))), (m_m, .inl (g 5, 12, .inr (.inr (.inr (.inr (fun i => if i < 12 then some (rr i) else none)))))), ((rr 0), .inl (g 1, 13, .inr (.inl (ct 0)))), ((rr 1), .inl (g 1, 13, .inr (.inl (ct 1)))), ((rr 2), .inl (g 1, 13, .inr (.inl (ct 2)))), ((rr 3), .inl (g 1, 13, .inr (.inl (ct 3)))), ((rr 4), .inl (g 1, 13, .inr (.inl (ct 4)))), ((rr 5), .inl (g 1, 13, .inr (.inl (ct 5)))), ((rr 6), .inl (g 1, 13, .inr (.inl (ct 6)))), ((rr 7), .inl (g 1, 13, .inr (.inl (ct 7)))), ((rr 8), .inl (g 1, 13, .inr (.inl (ct 8)))), ((rr 9), .inl (g 1, 13, .inr (.inl (ct 9)))), ((rr 10), .inl (g 1, 13, .inr (.inl (ct 10)))), ((rr 11), .inl (g 1, 13, .inr (.inl (ct 11))))] s.heap.size = A at hD ⊢
  have hA : ∀ q : Nat, s.heap.size ≤ q → A q := fun q h => by rw [← hAe]; exact Or.inr h
  have hS : va_S A s.heap s.heap [] := va_S.rf
  have hP : va_P D vwCl [(mm, .inr (12, (.int i_thrown :: .ref m_s :: .ref m_spare :: .ref m_kept :: .ref m_undone :: .ref m_triedWay :: .ref m_isKept :: .int i_undoMany :: .ref m_tape :: .int i_length :: .int i_size :: .int i_p :: .int i_at :: .int i_token :: .int i_number :: .int i_letterMany :: .int i_fault :: .int i_faultAt :: .ref m_letters :: .int i_isKnown :: .ref m_choice :: .ref m_row :: .ref m_up :: .ref m_low :: .ref m_m :: .ref m_bestUp :: .ref m_bestLow :: .ref m_replyUp :: .ref m_replyLow :: .ref m_worthUp :: .ref m_worthLow :: .ref m_bestWay :: .int i_seed :: .ref m_told :: .int i_toldMany :: []))), (m_m, .inl (g 5, 12, .inr (.inr (.inr (.inr (fun i => if i < 12 then some (rr i) else none)))))), ((rr 0), .inl (g 1, 13, .inr (.inl (ct 0)))), ((rr 1), .inl (g 1, 13, .inr (.inl (ct 1)))), ((rr 2), .inl (g 1, 13, .inr (.inl (ct 2)))), ((rr 3), .inl (g 1, 13, .inr (.inl (ct 3)))), ((rr 4), .inl (g 1, 13, .inr (.inl (ct 4)))), ((rr 5), .inl (g 1, 13, .inr (.inl (ct 5)))), ((rr 6), .inl (g 1, 13, .inr (.inl (ct 6)))), ((rr 7), .inl (g 1, 13, .inr (.inl (ct 7)))), ((rr 8), .inl (g 1, 13, .inr (.inl (ct 8)))), ((rr 9), .inl (g 1, 13, .inr (.inl (ct 9)))), ((rr 10), .inl (g 1, 13, .inr (.inl (ct 10)))), ((rr 11), .inl (g 1, 13, .inr (.inl (ct 11))))] s.heap := hP
  refine W.eq (g2 := entryFrame m ([.ref mm, .int p0] : List Value).toArray 9) (by rw [ha]) ?_
  have hl := lv_entry ([.ref mm, .int p0]) (n := 9) (Nat.le_of_ble_eq_true rfl)
  rw [lg_entry_eq]
  generalize (lg_sl ([.ref mm, .int p0]) ++ List.replicate (9 - (lg_sl ([.ref mm, .int p0])).length) Slot.unset).toArray = ls at hl ⊢
  have hl : lv_has ls 9 [(0, .ref mm), (1, .int p0)] := hl
  refine lv_lconst (v := 1) hx hb dX12_solves_0 (by decide) ?_
  refine lv_lstore_n (lv' := [(2, .long 1), (0, .ref mm), (1, .int p0)]) hx hb dX12_solves_1 rfl hl (by decide) rfl (fun ls hl => ?_)
  refine lv_iconst (v := 0) hx hb dX12_solves_2 (by decide) ?_
  refine lv_istore (lv' := [(4, .int 0), (2, .long 1), (0, .ref mm), (1, .int p0)]) hx hb dX12_solves_3 hl (by decide) rfl (fun ls hl => ?_)
  have lp_8368 : ∀ (n_8368 : Nat) (x_8365 : Int32) (x_8366 : Int64) (ct_8367 : Nat → Nat → Int64) (H : Heap) (locs : List Loc) (ls : Array Slot), (0 ≤ (x_8365 : Int32).toInt ∧ (x_8365 : Int32).toInt ≤ 12) → (SM (p0 : Int32).toInt.toNat (tI ct) x_8365.toInt.toNat ct_8367) → ((x_8366 : Int64).toInt = eb (tI ct) x_8365.toInt.toNat) → (x_8365.toInt ≤ (p0 : Int32).toInt) → (12 - x_8365.toInt < (n_8368 : Int)) → va_P D vwCl [(mm, .inr (12, (.int i_thrown :: .ref m_s :: .ref m_spare :: .ref m_kept :: .ref m_undone :: .ref m_triedWay :: .ref m_isKept :: .int i_undoMany :: .ref m_tape :: .int i_length :: .int i_size :: .int i_p :: .int i_at :: .int i_token :: .int i_number :: .int i_letterMany :: .int i_fault :: .int i_faultAt :: .ref m_letters :: .int i_isKnown :: .ref m_choice :: .ref m_row :: .ref m_up :: .ref m_low :: .ref m_m :: .ref m_bestUp :: .ref m_bestLow :: .ref m_replyUp :: .ref m_replyLow :: .ref m_worthUp :: .ref m_worthLow :: .ref m_bestWay :: .int i_seed :: .ref m_told :: .int i_toldMany :: []))), (m_m, .inl (g 5, 12, .inr (.inr (.inr (.inr (fun i => if i < 12 then some (rr i) else none)))))), ((rr 0), .inl (g 1, 13, .inr (.inl (ct_8367 0)))), ((rr 1), .inl (g 1, 13, .inr (.inl (ct_8367 1)))), ((rr 2), .inl (g 1, 13, .inr (.inl (ct_8367 2)))), ((rr 3), .inl (g 1, 13, .inr (.inl (ct_8367 3)))), ((rr 4), .inl (g 1, 13, .inr (.inl (ct_8367 4)))), ((rr 5), .inl (g 1, 13, .inr (.inl (ct_8367 5)))), ((rr 6), .inl (g 1, 13, .inr (.inl (ct_8367 6)))), ((rr 7), .inl (g 1, 13, .inr (.inl (ct_8367 7)))), ((rr 8), .inl (g 1, 13, .inr (.inl (ct_8367 8)))), ((rr 9), .inl (g 1, 13, .inr (.inl (ct_8367 9)))), ((rr 10), .inl (g 1, 13, .inr (.inl (ct_8367 10)))), ((rr 11), .inl (g 1, 13, .inr (.inl (ct_8367 11))))] H → va_D A [(mm, .inr (12, (.int i_thrown :: .ref m_s :: .ref m_spare :: .ref m_kept :: .ref m_undone :: .ref m_triedWay :: .ref m_isKept :: .int i_undoMany :: .ref m_tape :: .int i_length :: .int i_size :: .int i_p :: .int i_at :: .int i_token :: .int i_number :: .int i_letterMany :: .int i_fault :: .int i_faultAt :: .ref m_letters :: .int i_isKnown :: .ref m_choice :: .ref m_row :: .ref m_up :: .ref m_low :: .ref m_m :: .ref m_bestUp :: .ref m_bestLow :: .ref m_replyUp :: .ref m_replyLow :: .ref m_worthUp :: .ref m_worthLow :: .ref m_bestWay :: .int i_seed :: .ref m_told :: .int i_toldMany :: []))), (m_m, .inl (g 5, 12, .inr (.inr (.inr (.inr (fun i => if i < 12 then some (rr i) else none)))))), ((rr 0), .inl (g 1, 13, .inr (.inl (ct_8367 0)))), ((rr 1), .inl (g 1, 13, .inr (.inl (ct_8367 1)))), ((rr 2), .inl (g 1, 13, .inr (.inl (ct_8367 2)))), ((rr 3), .inl (g 1, 13, .inr (.inl (ct_8367 3)))), ((rr 4), .inl (g 1, 13, .inr (.inl (ct_8367 4)))), ((rr 5), .inl (g 1, 13, .inr (.inl (ct_8367 5)))), ((rr 6), .inl (g 1, 13, .inr (.inl (ct_8367 6)))), ((rr 7), .inl (g 1, 13, .inr (.inl (ct_8367 7)))), ((rr 8), .inl (g 1, 13, .inr (.inl (ct_8367 8)))), ((rr 9), .inl (g 1, 13, .inr (.inl (ct_8367 9)))), ((rr 10), .inl (g 1, 13, .inr (.inl (ct_8367 10)))), ((rr 11), .inl (g 1, 13, .inr (.inl (ct_8367 11))))] → va_S A s.heap H locs → lv_has ls 9 [(4, .int x_8365), (2, .long x_8366), (0, .ref mm), (1, .int p0)] → W p l e (headSpec (.code yX12_solves cX12_solves 9 (some .long) :: wsL_law) ({ frames := 0, cells := 0, slots := 0, locals := 0 })).room s m args below meth c H locs 0 0 (MQ below (va_Ql (fun (r u : Int64) => u = r ∧ (True)) (fun r t => ∃ oct : Nat → Nat → Int64, (SM (p0 : Int32).toInt.toNat (tI ct) (p0 : Int32).toInt.toNat oct) ∧ ((r : Int64).toInt = eb (tI ct) (p0 : Int32).toInt.toNat) ∧ va_P D vwCl [(mm, .inr (12, (.int i_thrown :: .ref m_s :: .ref m_spare :: .ref m_kept :: .ref m_undone :: .ref m_triedWay :: .ref m_isKept :: .int i_undoMany :: .ref m_tape :: .int i_length :: .int i_size :: .int i_p :: .int i_at :: .int i_token :: .int i_number :: .int i_letterMany :: .int i_fault :: .int i_faultAt :: .ref m_letters :: .int i_isKnown :: .ref m_choice :: .ref m_row :: .ref m_up :: .ref m_low :: .ref m_m :: .ref m_bestUp :: .ref m_bestLow :: .ref m_replyUp :: .ref m_replyLow :: .ref m_worthUp :: .ref m_worthLow :: .ref m_bestWay :: .int i_seed :: .ref m_told :: .int i_toldMany :: []))), (m_m, .inl (g 5, 12, .inr (.inr (.inr (.inr (fun i => if i < 12 then some (rr i) else none)))))), ((rr 0), .inl (g 1, 13, .inr (.inl (oct 0)))), ((rr 1), .inl (g 1, 13, .inr (.inl (oct 1)))), ((rr 2), .inl (g 1, 13, .inr (.inl (oct 2)))), ((rr 3), .inl (g 1, 13, .inr (.inl (oct 3)))), ((rr 4), .inl (g 1, 13, .inr (.inl (oct 4)))), ((rr 5), .inl (g 1, 13, .inr (.inl (oct 5)))), ((rr 6), .inl (g 1, 13, .inr (.inl (oct 6)))), ((rr 7), .inl (g 1, 13, .inr (.inl (oct 7)))), ((rr 8), .inl (g 1, 13, .inr (.inl (oct 8)))), ((rr 9), .inl (g 1, 13, .inr (.inl (oct 9)))), ((rr 10), .inl (g 1, 13, .inr (.inl (oct 10)))), ((rr 11), .inl (g 1, 13, .inr (.inl (oct 11))))] t.heap ∧ va_D A [(mm, .inr (12, (.int i_thrown :: .ref m_s :: .ref m_spare :: .ref m_kept :: .ref m_undone :: .ref m_triedWay :: .ref m_isKept :: .int i_undoMany :: .ref m_tape :: .int i_length :: .int i_size :: .int i_p :: .int i_at :: .int i_token :: .int i_number :: .int i_letterMany :: .int i_fault :: .int i_faultAt :: .ref m_letters :: .int i_isKnown :: .ref m_choice :: .ref m_row :: .ref m_up :: .ref m_low :: .ref m_m :: .ref m_bestUp :: .ref m_bestLow :: .ref m_replyUp :: .ref m_replyLow :: .ref m_worthUp :: .ref m_worthLow :: .ref m_bestWay :: .int i_seed :: .ref m_told :: .int i_toldMany :: []))), (m_m, .inl (g 5, 12, .inr (.inr (.inr (.inr (fun i => if i < 12 then some (rr i) else none)))))), ((rr 0), .inl (g 1, 13, .inr (.inl (oct 0)))), ((rr 1), .inl (g 1, 13, .inr (.inl (oct 1)))), ((rr 2), .inl (g 1, 13, .inr (.inl (oct 2)))), ((rr 3), .inl (g 1, 13, .inr (.inl (oct 3)))), ((rr 4), .inl (g 1, 13, .inr (.inl (oct 4)))), ((rr 5), .inl (g 1, 13, .inr (.inl (oct 5)))), ((rr 6), .inl (g 1, 13, .inr (.inl (oct 6)))), ((rr 7), .inl (g 1, 13, .inr (.inl (oct 7)))), ((rr 8), .inl (g 1, 13, .inr (.inl (oct 8)))), ((rr 9), .inl (g 1, 13, .inr (.inl (oct 9)))), ((rr 10), .inl (g 1, 13, .inr (.inl (oct 10)))), ((rr 11), .inl (g 1, 13, .inr (.inl (oct 11))))]) A) args s 0 0 A) (F0 m 5 ls []) := by
    intro n_8368
    induction n_8368 with
    | zero =>
      intro x_8365 x_8366 ct_8367 H locs ls h_x_8365 hr8368_0 hr8368_1 hr8368_2 hm_8368 hP hD hS hl
      exfalso; omega
    | succ n_8368 ih_8368 =>
      intro x_8365 x_8366 ct_8367 H locs ls h_x_8365 hr8368_0 hr8368_1 hr8368_2 hm_8368 hP hD hS hl
      refine lv_iload hx hb dX12_solves_5 (lv_at hl 0 rfl) ?_
      refine lv_iload_n hx hb dX12_solves_7 rfl (lv_at hl 3 rfl) ?_
      refine lv_icmp_ge (tgt := 284) hx hb dX12_solves_8 (by decide) (fun c_8369 => ?_) (fun c_8369 => ?_)
      · skip
        have c_8369_i := Int32.le_iff_toInt_le.mp c_8369
        refine lv_lload_n hx hb dX12_solves_284 rfl (lv_at hl 1 rfl) ?_
        have hP9 := hP.sub (ws' := [(mm, .inr (12, (.int i_thrown :: .ref m_s :: .ref m_spare :: .ref m_kept :: .ref m_undone :: .ref m_triedWay :: .ref m_isKept :: .int i_undoMany :: .ref m_tape :: .int i_length :: .int i_size :: .int i_p :: .int i_at :: .int i_token :: .int i_number :: .int i_letterMany :: .int i_fault :: .int i_faultAt :: .ref m_letters :: .int i_isKnown :: .ref m_choice :: .ref m_row :: .ref m_up :: .ref m_low :: .ref m_m :: .ref m_bestUp :: .ref m_bestLow :: .ref m_replyUp :: .ref m_replyLow :: .ref m_worthUp :: .ref m_worthLow :: .ref m_bestWay :: .int i_seed :: .ref m_told :: .int i_toldMany :: []))), (m_m, .inl (g 5, 12, .inr (.inr (.inr (.inr (fun i => if i < 12 then some (rr i) else none)))))), ((rr 0), .inl (g 1, 13, .inr (.inl (ct_8367 0)))), ((rr 1), .inl (g 1, 13, .inr (.inl (ct_8367 1)))), ((rr 2), .inl (g 1, 13, .inr (.inl (ct_8367 2)))), ((rr 3), .inl (g 1, 13, .inr (.inl (ct_8367 3)))), ((rr 4), .inl (g 1, 13, .inr (.inl (ct_8367 4)))), ((rr 5), .inl (g 1, 13, .inr (.inl (ct_8367 5)))), ((rr 6), .inl (g 1, 13, .inr (.inl (ct_8367 6)))), ((rr 7), .inl (g 1, 13, .inr (.inl (ct_8367 7)))), ((rr 8), .inl (g 1, 13, .inr (.inl (ct_8367 8)))), ((rr 9), .inl (g 1, 13, .inr (.inl (ct_8367 9)))), ((rr 10), .inl (g 1, 13, .inr (.inl (ct_8367 10)))), ((rr 11), .inl (g 1, 13, .inr (.inl (ct_8367 11))))]) [0, 1, 2, 3, 4, 5, 6, 7, 8, 9, 10, 11, 12, 13] rfl
        have hD9 := hD.sub (ws' := [(mm, .inr (12, (.int i_thrown :: .ref m_s :: .ref m_spare :: .ref m_kept :: .ref m_undone :: .ref m_triedWay :: .ref m_isKept :: .int i_undoMany :: .ref m_tape :: .int i_length :: .int i_size :: .int i_p :: .int i_at :: .int i_token :: .int i_number :: .int i_letterMany :: .int i_fault :: .int i_faultAt :: .ref m_letters :: .int i_isKnown :: .ref m_choice :: .ref m_row :: .ref m_up :: .ref m_low :: .ref m_m :: .ref m_bestUp :: .ref m_bestLow :: .ref m_replyUp :: .ref m_replyLow :: .ref m_worthUp :: .ref m_worthLow :: .ref m_bestWay :: .int i_seed :: .ref m_told :: .int i_toldMany :: []))), (m_m, .inl (g 5, 12, .inr (.inr (.inr (.inr (fun i => if i < 12 then some (rr i) else none)))))), ((rr 0), .inl (g 1, 13, .inr (.inl (ct_8367 0)))), ((rr 1), .inl (g 1, 13, .inr (.inl (ct_8367 1)))), ((rr 2), .inl (g 1, 13, .inr (.inl (ct_8367 2)))), ((rr 3), .inl (g 1, 13, .inr (.inl (ct_8367 3)))), ((rr 4), .inl (g 1, 13, .inr (.inl (ct_8367 4)))), ((rr 5), .inl (g 1, 13, .inr (.inl (ct_8367 5)))), ((rr 6), .inl (g 1, 13, .inr (.inl (ct_8367 6)))), ((rr 7), .inl (g 1, 13, .inr (.inl (ct_8367 7)))), ((rr 8), .inl (g 1, 13, .inr (.inl (ct_8367 8)))), ((rr 9), .inl (g 1, 13, .inr (.inl (ct_8367 9)))), ((rr 10), .inl (g 1, 13, .inr (.inl (ct_8367 10)))), ((rr 11), .inl (g 1, 13, .inr (.inl (ct_8367 11))))]) [0, 1, 2, 3, 4, 5, 6, 7, 8, 9, 10, 11, 12, 13] (by decide) rfl
        exact W.lret (v := x_8366) hx hb hr (fun t ht hW => ⟨⟨x_8366, x_8366, rfl, ⟨rfl, trivial⟩, ct_8367, ((by (first | (clear h_i_undoMany h_i_length h_i_size h_i_p h_i_at h_i_token h_i_number h_i_letterMany h_i_faultAt h_i_isKnown h_i_toldMany hP; omega) | omega) : x_8365.toInt.toNat = (p0 : Int32).toInt.toNat) ▸ hr8368_0), ((by (first | (clear h_i_undoMany h_i_length h_i_size h_i_p h_i_at h_i_token h_i_number h_i_letterMany h_i_faultAt h_i_isKnown h_i_toldMany hP; omega) | omega) : x_8365.toInt.toNat = (p0 : Int32).toInt.toNat) ▸ hr8368_1), by rw [ht]; exact hP9, hD9⟩, hS.F ht⟩) hS.2.2 dX12_solves_285
      · skip
        have c_8369_i := Int32.lt_iff_toInt_lt.mp (Int32.not_le.mp c_8369)
        have h_8370 : 0 ≤ (x_8365 : Int32).toInt ∧ (x_8365 : Int32).toInt ≤ 11 := nr_lt_l h_x_8365 h_p0 c_8369_i (by decide) (by decide)
        have h_8371 : 1 ≤ (p0 : Int32).toInt ∧ (p0 : Int32).toInt ≤ 12 := nr_lt_r h_x_8365 h_p0 c_8369_i (by decide) (by decide)
        refine lv_iload hx hb dX12_solves_11 (lv_at hl 0 rfl) ?_
        refine lv_istore (lv' := [(5, .int x_8365), (4, .int x_8365), (2, .long x_8366), (0, .ref mm), (1, .int p0)]) hx hb dX12_solves_13 hl (by decide) rfl (fun ls hl => ?_)
        refine lv_aload_n hx hb dX12_solves_15 rfl (lv_at hl 3 rfl) ?_
        refine va_get (D := D) (ci := 12) (v := .ref m_m) (C := RX12) (T := TX12) (N := 35) hx hb hts inlX12 hown hK hP 0 rfl rfl 24 (by decide) (hts (Cond.fieldLink RX12 55 "ChanceRingsModel" "m" "[[J") qw_130) (fun _ h9 => h9) rfl dX12_solves_16 ?_
        refine lv_iload hx hb dX12_solves_19 (lv_at hl 0 rfl) ?_
        refine va_ald2 hx hb hK hP 1 5 rfl rfl (tr_in h_8370 (by decide) (by decide)) dX12_solves_21 ?_
        refine tz_v (y := .ref (rr (x_8365 : Int32).toNatClampNeg)) (tz_row rfl (tr_cl (tr_in h_8370 (by decide) (by decide)))) ?_
        refine lv_iload hx hb dX12_solves_22 (lv_at hl 1 rfl) ?_
        refine tq_ald12 (WS := (fun ct9 : Nat → Nat → Int64 => [(mm, .inr (12, (.int i_thrown :: .ref m_s :: .ref m_spare :: .ref m_kept :: .ref m_undone :: .ref m_triedWay :: .ref m_isKept :: .int i_undoMany :: .ref m_tape :: .int i_length :: .int i_size :: .int i_p :: .int i_at :: .int i_token :: .int i_number :: .int i_letterMany :: .int i_fault :: .int i_faultAt :: .ref m_letters :: .int i_isKnown :: .ref m_choice :: .ref m_row :: .ref m_up :: .ref m_low :: .ref m_m :: .ref m_bestUp :: .ref m_bestLow :: .ref m_replyUp :: .ref m_replyLow :: .ref m_worthUp :: .ref m_worthLow :: .ref m_bestWay :: .int i_seed :: .ref m_told :: .int i_toldMany :: []))), (m_m, .inl (g 5, 12, .inr (.inr (.inr (.inr (fun i => if i < 12 then some (rr i) else none)))))), ((rr 0), .inl (g 1, 13, .inr (.inl (ct9 0)))), ((rr 1), .inl (g 1, 13, .inr (.inl (ct9 1)))), ((rr 2), .inl (g 1, 13, .inr (.inl (ct9 2)))), ((rr 3), .inl (g 1, 13, .inr (.inl (ct9 3)))), ((rr 4), .inl (g 1, 13, .inr (.inl (ct9 4)))), ((rr 5), .inl (g 1, 13, .inr (.inl (ct9 5)))), ((rr 6), .inl (g 1, 13, .inr (.inl (ct9 6)))), ((rr 7), .inl (g 1, 13, .inr (.inl (ct9 7)))), ((rr 8), .inl (g 1, 13, .inr (.inl (ct9 8)))), ((rr 9), .inl (g 1, 13, .inr (.inl (ct9 9)))), ((rr 10), .inl (g 1, 13, .inr (.inl (ct9 10)))), ((rr 11), .inl (g 1, 13, .inr (.inl (ct9 11))))])) (ct := ct_8367) hx hb hK hP 2 (fun ct i hi => by rcases nr_12 hi with rfl | rfl | rfl | rfl | rfl | rfl | rfl | rfl | rfl | rfl | rfl | rfl <;> rfl) (tr_in h_8370 (by decide) (by decide)) (tr_in h_8370 (by decide) (by decide)) dX12_solves_24 ?_
        refine lv_topl (fun w_8372 w_8372_e => ?_)
        have g_w_8372 : w_8372 = ct_8367 (x_8365.toInt.toNat) (x_8365.toInt.toNat) := w_8372_e.trans (congr (congrArg ct_8367 (rfl : (x_8365 : Int32).toNatClampNeg = x_8365.toInt.toNat)) (rfl : (x_8365 : Int32).toNatClampNeg = x_8365.toInt.toNat))
        refine lv_lconst (v := 0) hx hb dX12_solves_25 (by decide) ?_
        refine W.lcmp hx hb dX12_solves_26 ?_
        refine lv_topi (fun v_8373 v_8373_e => ?_)
        have h_v_8373 : (-1) ≤ (v_8373 : Int32).toInt ∧ (v_8373 : Int32).toInt ≤ 1 := by rw [v_8373_e]; exact tr_cmp _ _
        refine lv_if_ne (tgt := 36) hx hb dX12_solves_27 (by decide) (fun c_8374 => ?_) (fun c_8374 => ?_)
        · skip
          have z_8375 : ¬ w_8372 = 0 := tr_cmp0 (by rw [← v_8373_e]; exact c_8374)
          refine lv_iconst (v := 0) hx hb dX12_solves_36 (by decide) ?_
          refine lv_istore (lv' := [(6, .int 0), (5, .int x_8365), (4, .int x_8365), (2, .long x_8366), (0, .ref mm), (1, .int p0)]) hx hb dX12_solves_37 hl (by decide) rfl (fun ls hl => ?_)
          refine lv_iload hx hb dX12_solves_39 (lv_at hl 0 rfl) ?_
          refine lv_iload_n hx hb dX12_solves_41 rfl (lv_at hl 5 rfl) ?_
          refine lv_icmp_gt (tgt := 103) hx hb dX12_solves_42 (by decide) (fun h9 => (nr_x_lt h_8371 (⟨by decide, by decide⟩ : 0 ≤ (0 : Int32).toInt ∧ (0 : Int32).toInt ≤ 0) (Int32.lt_iff_toInt_lt.mp h9) (by decide)).elim) (fun c_8377 => ?_)
          have kk_0 := tk_0
          have c_8377_i := Int32.le_iff_toInt_le.mp (Int32.not_lt.mp c_8377)
          refine lv_iload hx hb dX12_solves_45 (lv_at hl 1 rfl) ?_
          refine lv_iload hx hb dX12_solves_47 (lv_at hl 2 rfl) ?_
          refine lv_icmp_eq (tgt := 103) hx hb dX12_solves_49 (by decide) (fun c_8378 => ?_) (fun c_8378 => ?_)
          · skip
            have c_8378_i : (x_8365 : Int32).toInt = (x_8365 : Int32).toInt := congrArg Int32.toInt c_8378
            refine lv_iconst (v := 0) hx hb dX12_solves_103 (by decide) ?_
            refine lv_istore (lv' := [(6, .int 0), (5, .int x_8365), (4, .int x_8365), (2, .long x_8366), (0, .ref mm), (1, .int p0)]) hx hb dX12_solves_104 hl (by decide) rfl (fun ls hl => ?_)
            have lp_8620 : ∀ (n_8620 : Nat) (x_8618 : Int32) (ct_8619 : Nat → Nat → Int64) (H : Heap) (locs : List Loc) (ls : Array Slot), (0 ≤ (x_8618 : Int32).toInt ∧ (x_8618 : Int32).toInt ≤ 12) → (SY (p0 : Int32).toInt.toNat (tI ct) x_8365.toInt.toNat x_8618.toInt.toNat (p0 : Int32).toInt ct_8619) → (12 - x_8618.toInt < (n_8620 : Int)) → va_P D vwCl [(mm, .inr (12, (.int i_thrown :: .ref m_s :: .ref m_spare :: .ref m_kept :: .ref m_undone :: .ref m_triedWay :: .ref m_isKept :: .int i_undoMany :: .ref m_tape :: .int i_length :: .int i_size :: .int i_p :: .int i_at :: .int i_token :: .int i_number :: .int i_letterMany :: .int i_fault :: .int i_faultAt :: .ref m_letters :: .int i_isKnown :: .ref m_choice :: .ref m_row :: .ref m_up :: .ref m_low :: .ref m_m :: .ref m_bestUp :: .ref m_bestLow :: .ref m_replyUp :: .ref m_replyLow :: .ref m_worthUp :: .ref m_worthLow :: .ref m_bestWay :: .int i_seed :: .ref m_told :: .int i_toldMany :: []))), (m_m, .inl (g 5, 12, .inr (.inr (.inr (.inr (fun i => if i < 12 then some (rr i) else none)))))), ((rr 0), .inl (g 1, 13, .inr (.inl (ct_8619 0)))), ((rr 1), .inl (g 1, 13, .inr (.inl (ct_8619 1)))), ((rr 2), .inl (g 1, 13, .inr (.inl (ct_8619 2)))), ((rr 3), .inl (g 1, 13, .inr (.inl (ct_8619 3)))), ((rr 4), .inl (g 1, 13, .inr (.inl (ct_8619 4)))), ((rr 5), .inl (g 1, 13, .inr (.inl (ct_8619 5)))), ((rr 6), .inl (g 1, 13, .inr (.inl (ct_8619 6)))), ((rr 7), .inl (g 1, 13, .inr (.inl (ct_8619 7)))), ((rr 8), .inl (g 1, 13, .inr (.inl (ct_8619 8)))), ((rr 9), .inl (g 1, 13, .inr (.inl (ct_8619 9)))), ((rr 10), .inl (g 1, 13, .inr (.inl (ct_8619 10)))), ((rr 11), .inl (g 1, 13, .inr (.inl (ct_8619 11))))] H → va_D A [(mm, .inr (12, (.int i_thrown :: .ref m_s :: .ref m_spare :: .ref m_kept :: .ref m_undone :: .ref m_triedWay :: .ref m_isKept :: .int i_undoMany :: .ref m_tape :: .int i_length :: .int i_size :: .int i_p :: .int i_at :: .int i_token :: .int i_number :: .int i_letterMany :: .int i_fault :: .int i_faultAt :: .ref m_letters :: .int i_isKnown :: .ref m_choice :: .ref m_row :: .ref m_up :: .ref m_low :: .ref m_m :: .ref m_bestUp :: .ref m_bestLow :: .ref m_replyUp :: .ref m_replyLow :: .ref m_worthUp :: .ref m_worthLow :: .ref m_bestWay :: .int i_seed :: .ref m_told :: .int i_toldMany :: []))), (m_m, .inl (g 5, 12, .inr (.inr (.inr (.inr (fun i => if i < 12 then some (rr i) else none)))))), ((rr 0), .inl (g 1, 13, .inr (.inl (ct_8619 0)))), ((rr 1), .inl (g 1, 13, .inr (.inl (ct_8619 1)))), ((rr 2), .inl (g 1, 13, .inr (.inl (ct_8619 2)))), ((rr 3), .inl (g 1, 13, .inr (.inl (ct_8619 3)))), ((rr 4), .inl (g 1, 13, .inr (.inl (ct_8619 4)))), ((rr 5), .inl (g 1, 13, .inr (.inl (ct_8619 5)))), ((rr 6), .inl (g 1, 13, .inr (.inl (ct_8619 6)))), ((rr 7), .inl (g 1, 13, .inr (.inl (ct_8619 7)))), ((rr 8), .inl (g 1, 13, .inr (.inl (ct_8619 8)))), ((rr 9), .inl (g 1, 13, .inr (.inl (ct_8619 9)))), ((rr 10), .inl (g 1, 13, .inr (.inl (ct_8619 10)))), ((rr 11), .inl (g 1, 13, .inr (.inl (ct_8619 11))))] → va_S A s.heap H locs → lv_has ls 9 [(6, .int x_8618), (5, .int x_8365), (4, .int x_8365), (2, .long x_8366), (0, .ref mm), (1, .int p0)] → W p l e (headSpec (.code yX12_solves cX12_solves 9 (some .long) :: wsL_law) ({ frames := 0, cells := 0, slots := 0, locals := 0 })).room s m args below meth c H locs 0 0 (MQ below (va_Ql (fun (r u : Int64) => u = r ∧ (True)) (fun r t => ∃ oct : Nat → Nat → Int64, (SM (p0 : Int32).toInt.toNat (tI ct) (p0 : Int32).toInt.toNat oct) ∧ ((r : Int64).toInt = eb (tI ct) (p0 : Int32).toInt.toNat) ∧ va_P D vwCl [(mm, .inr (12, (.int i_thrown :: .ref m_s :: .ref m_spare :: .ref m_kept :: .ref m_undone :: .ref m_triedWay :: .ref m_isKept :: .int i_undoMany :: .ref m_tape :: .int i_length :: .int i_size :: .int i_p :: .int i_at :: .int i_token :: .int i_number :: .int i_letterMany :: .int i_fault :: .int i_faultAt :: .ref m_letters :: .int i_isKnown :: .ref m_choice :: .ref m_row :: .ref m_up :: .ref m_low :: .ref m_m :: .ref m_bestUp :: .ref m_bestLow :: .ref m_replyUp :: .ref m_replyLow :: .ref m_worthUp :: .ref m_worthLow :: .ref m_bestWay :: .int i_seed :: .ref m_told :: .int i_toldMany :: []))), (m_m, .inl (g 5, 12, .inr (.inr (.inr (.inr (fun i => if i < 12 then some (rr i) else none)))))), ((rr 0), .inl (g 1, 13, .inr (.inl (oct 0)))), ((rr 1), .inl (g 1, 13, .inr (.inl (oct 1)))), ((rr 2), .inl (g 1, 13, .inr (.inl (oct 2)))), ((rr 3), .inl (g 1, 13, .inr (.inl (oct 3)))), ((rr 4), .inl (g 1, 13, .inr (.inl (oct 4)))), ((rr 5), .inl (g 1, 13, .inr (.inl (oct 5)))), ((rr 6), .inl (g 1, 13, .inr (.inl (oct 6)))), ((rr 7), .inl (g 1, 13, .inr (.inl (oct 7)))), ((rr 8), .inl (g 1, 13, .inr (.inl (oct 8)))), ((rr 9), .inl (g 1, 13, .inr (.inl (oct 9)))), ((rr 10), .inl (g 1, 13, .inr (.inl (oct 10)))), ((rr 11), .inl (g 1, 13, .inr (.inl (oct 11))))] t.heap ∧ va_D A [(mm, .inr (12, (.int i_thrown :: .ref m_s :: .ref m_spare :: .ref m_kept :: .ref m_undone :: .ref m_triedWay :: .ref m_isKept :: .int i_undoMany :: .ref m_tape :: .int i_length :: .int i_size :: .int i_p :: .int i_at :: .int i_token :: .int i_number :: .int i_letterMany :: .int i_fault :: .int i_faultAt :: .ref m_letters :: .int i_isKnown :: .ref m_choice :: .ref m_row :: .ref m_up :: .ref m_low :: .ref m_m :: .ref m_bestUp :: .ref m_bestLow :: .ref m_replyUp :: .ref m_replyLow :: .ref m_worthUp :: .ref m_worthLow :: .ref m_bestWay :: .int i_seed :: .ref m_told :: .int i_toldMany :: []))), (m_m, .inl (g 5, 12, .inr (.inr (.inr (.inr (fun i => if i < 12 then some (rr i) else none)))))), ((rr 0), .inl (g 1, 13, .inr (.inl (oct 0)))), ((rr 1), .inl (g 1, 13, .inr (.inl (oct 1)))), ((rr 2), .inl (g 1, 13, .inr (.inl (oct 2)))), ((rr 3), .inl (g 1, 13, .inr (.inl (oct 3)))), ((rr 4), .inl (g 1, 13, .inr (.inl (oct 4)))), ((rr 5), .inl (g 1, 13, .inr (.inl (oct 5)))), ((rr 6), .inl (g 1, 13, .inr (.inl (oct 6)))), ((rr 7), .inl (g 1, 13, .inr (.inl (oct 7)))), ((rr 8), .inl (g 1, 13, .inr (.inl (oct 8)))), ((rr 9), .inl (g 1, 13, .inr (.inl (oct 9)))), ((rr 10), .inl (g 1, 13, .inr (.inl (oct 10)))), ((rr 11), .inl (g 1, 13, .inr (.inl (oct 11))))]) A) args s 0 0 A) (F0 m 106 ls []) := by
              intro n_8620
              induction n_8620 with
              | zero =>
                intro x_8618 ct_8619 H locs ls h_x_8618 hr8620_0 hm_8620 hP hD hS hl
                exfalso; omega
              | succ n_8620 ih_8620 =>
                intro x_8618 ct_8619 H locs ls h_x_8618 hr8620_0 hm_8620 hP hD hS hl
                refine lv_iload hx hb dX12_solves_106 (lv_at hl 0 rfl) ?_
                refine lv_iload_n hx hb dX12_solves_108 rfl (lv_at hl 5 rfl) ?_
                refine lv_icmp_ge (tgt := 204) hx hb dX12_solves_109 (by decide) (fun c_8621 => ?_) (fun c_8621 => ?_)
                · skip
                  have c_8621_i := Int32.le_iff_toInt_le.mp c_8621
                  have h_8622 : 1 ≤ (x_8618 : Int32).toInt ∧ (x_8618 : Int32).toInt ≤ 12 := nr_le_r h_8371 h_x_8618 c_8621_i (by decide) (by decide)
                  refine lv_iconst (v := 0) hx hb dX12_solves_204 (by decide) ?_
                  refine lv_istore (lv' := [(6, .int 0), (5, .int x_8365), (4, .int x_8365), (2, .long x_8366), (0, .ref mm), (1, .int p0)]) hx hb dX12_solves_205 hl (by decide) rfl (fun ls hl => ?_)
                  have lp_8659 : ∀ (n_8659 : Nat) (x_8657 : Int32) (ct_8658 : Nat → Nat → Int64) (H : Heap) (locs : List Loc) (ls : Array Slot), (0 ≤ (x_8657 : Int32).toInt ∧ (x_8657 : Int32).toInt ≤ 12) → (SZ (p0 : Int32).toInt.toNat (tI ct) x_8365.toInt.toNat x_8657.toInt.toNat ct_8658) → (12 - x_8657.toInt < (n_8659 : Int)) → va_P D vwCl [(mm, .inr (12, (.int i_thrown :: .ref m_s :: .ref m_spare :: .ref m_kept :: .ref m_undone :: .ref m_triedWay :: .ref m_isKept :: .int i_undoMany :: .ref m_tape :: .int i_length :: .int i_size :: .int i_p :: .int i_at :: .int i_token :: .int i_number :: .int i_letterMany :: .int i_fault :: .int i_faultAt :: .ref m_letters :: .int i_isKnown :: .ref m_choice :: .ref m_row :: .ref m_up :: .ref m_low :: .ref m_m :: .ref m_bestUp :: .ref m_bestLow :: .ref m_replyUp :: .ref m_replyLow :: .ref m_worthUp :: .ref m_worthLow :: .ref m_bestWay :: .int i_seed :: .ref m_told :: .int i_toldMany :: []))), (m_m, .inl (g 5, 12, .inr (.inr (.inr (.inr (fun i => if i < 12 then some (rr i) else none)))))), ((rr 0), .inl (g 1, 13, .inr (.inl (ct_8658 0)))), ((rr 1), .inl (g 1, 13, .inr (.inl (ct_8658 1)))), ((rr 2), .inl (g 1, 13, .inr (.inl (ct_8658 2)))), ((rr 3), .inl (g 1, 13, .inr (.inl (ct_8658 3)))), ((rr 4), .inl (g 1, 13, .inr (.inl (ct_8658 4)))), ((rr 5), .inl (g 1, 13, .inr (.inl (ct_8658 5)))), ((rr 6), .inl (g 1, 13, .inr (.inl (ct_8658 6)))), ((rr 7), .inl (g 1, 13, .inr (.inl (ct_8658 7)))), ((rr 8), .inl (g 1, 13, .inr (.inl (ct_8658 8)))), ((rr 9), .inl (g 1, 13, .inr (.inl (ct_8658 9)))), ((rr 10), .inl (g 1, 13, .inr (.inl (ct_8658 10)))), ((rr 11), .inl (g 1, 13, .inr (.inl (ct_8658 11))))] H → va_D A [(mm, .inr (12, (.int i_thrown :: .ref m_s :: .ref m_spare :: .ref m_kept :: .ref m_undone :: .ref m_triedWay :: .ref m_isKept :: .int i_undoMany :: .ref m_tape :: .int i_length :: .int i_size :: .int i_p :: .int i_at :: .int i_token :: .int i_number :: .int i_letterMany :: .int i_fault :: .int i_faultAt :: .ref m_letters :: .int i_isKnown :: .ref m_choice :: .ref m_row :: .ref m_up :: .ref m_low :: .ref m_m :: .ref m_bestUp :: .ref m_bestLow :: .ref m_replyUp :: .ref m_replyLow :: .ref m_worthUp :: .ref m_worthLow :: .ref m_bestWay :: .int i_seed :: .ref m_told :: .int i_toldMany :: []))), (m_m, .inl (g 5, 12, .inr (.inr (.inr (.inr (fun i => if i < 12 then some (rr i) else none)))))), ((rr 0), .inl (g 1, 13, .inr (.inl (ct_8658 0)))), ((rr 1), .inl (g 1, 13, .inr (.inl (ct_8658 1)))), ((rr 2), .inl (g 1, 13, .inr (.inl (ct_8658 2)))), ((rr 3), .inl (g 1, 13, .inr (.inl (ct_8658 3)))), ((rr 4), .inl (g 1, 13, .inr (.inl (ct_8658 4)))), ((rr 5), .inl (g 1, 13, .inr (.inl (ct_8658 5)))), ((rr 6), .inl (g 1, 13, .inr (.inl (ct_8658 6)))), ((rr 7), .inl (g 1, 13, .inr (.inl (ct_8658 7)))), ((rr 8), .inl (g 1, 13, .inr (.inl (ct_8658 8)))), ((rr 9), .inl (g 1, 13, .inr (.inl (ct_8658 9)))), ((rr 10), .inl (g 1, 13, .inr (.inl (ct_8658 10)))), ((rr 11), .inl (g 1, 13, .inr (.inl (ct_8658 11))))] → va_S A s.heap H locs → lv_has ls 9 [(6, .int x_8657), (5, .int x_8365), (4, .int x_8365), (2, .long x_8366), (0, .ref mm), (1, .int p0)] → W p l e (headSpec (.code yX12_solves cX12_solves 9 (some .long) :: wsL_law) ({ frames := 0, cells := 0, slots := 0, locals := 0 })).room s m args below meth c H locs 0 0 (MQ below (va_Ql (fun (r u : Int64) => u = r ∧ (True)) (fun r t => ∃ oct : Nat → Nat → Int64, (SM (p0 : Int32).toInt.toNat (tI ct) (p0 : Int32).toInt.toNat oct) ∧ ((r : Int64).toInt = eb (tI ct) (p0 : Int32).toInt.toNat) ∧ va_P D vwCl [(mm, .inr (12, (.int i_thrown :: .ref m_s :: .ref m_spare :: .ref m_kept :: .ref m_undone :: .ref m_triedWay :: .ref m_isKept :: .int i_undoMany :: .ref m_tape :: .int i_length :: .int i_size :: .int i_p :: .int i_at :: .int i_token :: .int i_number :: .int i_letterMany :: .int i_fault :: .int i_faultAt :: .ref m_letters :: .int i_isKnown :: .ref m_choice :: .ref m_row :: .ref m_up :: .ref m_low :: .ref m_m :: .ref m_bestUp :: .ref m_bestLow :: .ref m_replyUp :: .ref m_replyLow :: .ref m_worthUp :: .ref m_worthLow :: .ref m_bestWay :: .int i_seed :: .ref m_told :: .int i_toldMany :: []))), (m_m, .inl (g 5, 12, .inr (.inr (.inr (.inr (fun i => if i < 12 then some (rr i) else none)))))), ((rr 0), .inl (g 1, 13, .inr (.inl (oct 0)))), ((rr 1), .inl (g 1, 13, .inr (.inl (oct 1)))), ((rr 2), .inl (g 1, 13, .inr (.inl (oct 2)))), ((rr 3), .inl (g 1, 13, .inr (.inl (oct 3)))), ((rr 4), .inl (g 1, 13, .inr (.inl (oct 4)))), ((rr 5), .inl (g 1, 13, .inr (.inl (oct 5)))), ((rr 6), .inl (g 1, 13, .inr (.inl (oct 6)))), ((rr 7), .inl (g 1, 13, .inr (.inl (oct 7)))), ((rr 8), .inl (g 1, 13, .inr (.inl (oct 8)))), ((rr 9), .inl (g 1, 13, .inr (.inl (oct 9)))), ((rr 10), .inl (g 1, 13, .inr (.inl (oct 10)))), ((rr 11), .inl (g 1, 13, .inr (.inl (oct 11))))] t.heap ∧ va_D A [(mm, .inr (12, (.int i_thrown :: .ref m_s :: .ref m_spare :: .ref m_kept :: .ref m_undone :: .ref m_triedWay :: .ref m_isKept :: .int i_undoMany :: .ref m_tape :: .int i_length :: .int i_size :: .int i_p :: .int i_at :: .int i_token :: .int i_number :: .int i_letterMany :: .int i_fault :: .int i_faultAt :: .ref m_letters :: .int i_isKnown :: .ref m_choice :: .ref m_row :: .ref m_up :: .ref m_low :: .ref m_m :: .ref m_bestUp :: .ref m_bestLow :: .ref m_replyUp :: .ref m_replyLow :: .ref m_worthUp :: .ref m_worthLow :: .ref m_bestWay :: .int i_seed :: .ref m_told :: .int i_toldMany :: []))), (m_m, .inl (g 5, 12, .inr (.inr (.inr (.inr (fun i => if i < 12 then some (rr i) else none)))))), ((rr 0), .inl (g 1, 13, .inr (.inl (oct 0)))), ((rr 1), .inl (g 1, 13, .inr (.inl (oct 1)))), ((rr 2), .inl (g 1, 13, .inr (.inl (oct 2)))), ((rr 3), .inl (g 1, 13, .inr (.inl (oct 3)))), ((rr 4), .inl (g 1, 13, .inr (.inl (oct 4)))), ((rr 5), .inl (g 1, 13, .inr (.inl (oct 5)))), ((rr 6), .inl (g 1, 13, .inr (.inl (oct 6)))), ((rr 7), .inl (g 1, 13, .inr (.inl (oct 7)))), ((rr 8), .inl (g 1, 13, .inr (.inl (oct 8)))), ((rr 9), .inl (g 1, 13, .inr (.inl (oct 9)))), ((rr 10), .inl (g 1, 13, .inr (.inl (oct 10)))), ((rr 11), .inl (g 1, 13, .inr (.inl (oct 11))))]) A) args s 0 0 A) (F0 m 207 ls []) := by
                    intro n_8659
                    induction n_8659 with
                    | zero =>
                      intro x_8657 ct_8658 H locs ls h_x_8657 hr8659_0 hm_8659 hP hD hS hl
                      exfalso; omega
                    | succ n_8659 ih_8659 =>
                      intro x_8657 ct_8658 H locs ls h_x_8657 hr8659_0 hm_8659 hP hD hS hl
                      refine lv_iload hx hb dX12_solves_207 (lv_at hl 0 rfl) ?_
                      refine lv_iload_n hx hb dX12_solves_209 rfl (lv_at hl 5 rfl) ?_
                      refine lv_icmp_ge (tgt := 267) hx hb dX12_solves_210 (by decide) (fun c_8660 => ?_) (fun c_8660 => ?_)
                      · skip
                        have c_8660_i := Int32.le_iff_toInt_le.mp c_8660
                        have h_8661 : 1 ≤ (x_8657 : Int32).toInt ∧ (x_8657 : Int32).toInt ≤ 12 := nr_le_r h_8371 h_x_8657 c_8660_i (by decide) (by decide)
                        refine lv_aload_n hx hb dX12_solves_267 rfl (lv_at hl 4 rfl) ?_
                        refine va_get (D := D) (ci := 12) (v := .ref m_m) (C := RX12) (T := TX12) (N := 35) hx hb hts inlX12 hown hK hP 0 rfl rfl 24 (by decide) (hts (Cond.fieldLink RX12 55 "ChanceRingsModel" "m" "[[J") qw_130) (fun _ h9 => h9) rfl dX12_solves_268 ?_
                        refine lv_iload hx hb dX12_solves_271 (lv_at hl 2 rfl) ?_
                        refine va_ald2 hx hb hK hP 1 5 rfl rfl (tr_in h_8370 (by decide) (by decide)) dX12_solves_273 ?_
                        refine tz_v (y := .ref (rr (x_8365 : Int32).toNatClampNeg)) (tz_row rfl (tr_cl (tr_in h_8370 (by decide) (by decide)))) ?_
                        refine lv_iload hx hb dX12_solves_274 (lv_at hl 2 rfl) ?_
                        refine tq_ald12 (WS := (fun ct9 : Nat → Nat → Int64 => [(mm, .inr (12, (.int i_thrown :: .ref m_s :: .ref m_spare :: .ref m_kept :: .ref m_undone :: .ref m_triedWay :: .ref m_isKept :: .int i_undoMany :: .ref m_tape :: .int i_length :: .int i_size :: .int i_p :: .int i_at :: .int i_token :: .int i_number :: .int i_letterMany :: .int i_fault :: .int i_faultAt :: .ref m_letters :: .int i_isKnown :: .ref m_choice :: .ref m_row :: .ref m_up :: .ref m_low :: .ref m_m :: .ref m_bestUp :: .ref m_bestLow :: .ref m_replyUp :: .ref m_replyLow :: .ref m_worthUp :: .ref m_worthLow :: .ref m_bestWay :: .int i_seed :: .ref m_told :: .int i_toldMany :: []))), (m_m, .inl (g 5, 12, .inr (.inr (.inr (.inr (fun i => if i < 12 then some (rr i) else none)))))), ((rr 0), .inl (g 1, 13, .inr (.inl (ct9 0)))), ((rr 1), .inl (g 1, 13, .inr (.inl (ct9 1)))), ((rr 2), .inl (g 1, 13, .inr (.inl (ct9 2)))), ((rr 3), .inl (g 1, 13, .inr (.inl (ct9 3)))), ((rr 4), .inl (g 1, 13, .inr (.inl (ct9 4)))), ((rr 5), .inl (g 1, 13, .inr (.inl (ct9 5)))), ((rr 6), .inl (g 1, 13, .inr (.inl (ct9 6)))), ((rr 7), .inl (g 1, 13, .inr (.inl (ct9 7)))), ((rr 8), .inl (g 1, 13, .inr (.inl (ct9 8)))), ((rr 9), .inl (g 1, 13, .inr (.inl (ct9 9)))), ((rr 10), .inl (g 1, 13, .inr (.inl (ct9 10)))), ((rr 11), .inl (g 1, 13, .inr (.inl (ct9 11))))])) (ct := ct_8658) hx hb hK hP 2 (fun ct i hi => by rcases nr_12 hi with rfl | rfl | rfl | rfl | rfl | rfl | rfl | rfl | rfl | rfl | rfl | rfl <;> rfl) (tr_in h_8370 (by decide) (by decide)) (tr_in h_8370 (by decide) (by decide)) dX12_solves_276 ?_
                        refine lv_topl (fun w_8663 w_8663_e => ?_)
                        have g_w_8663 : w_8663 = ct_8658 (x_8365.toInt.toNat) (x_8365.toInt.toNat) := w_8663_e.trans (congr (congrArg ct_8658 (rfl : (x_8365 : Int32).toNatClampNeg = x_8365.toInt.toNat)) (rfl : (x_8365 : Int32).toNatClampNeg = x_8365.toInt.toNat))
                        refine lv_lstore_n (lv' := [(2, .long w_8663), (6, .int x_8657), (5, .int x_8365), (4, .int x_8365), (0, .ref mm), (1, .int p0)]) hx hb dX12_solves_277 rfl hl (by decide) rfl (fun ls hl => ?_)
                        obtain ⟨v_8664, v_8664_e⟩ : ∃ y : Int32, y = x_8365 + Int32.ofInt 1 := ⟨_, rfl⟩
                        have h_v_8664 : 1 ≤ (v_8664 : Int32).toInt ∧ (v_8664 : Int32).toInt ≤ 12 := by rw [v_8664_e]; exact tr_add h_8370 (⟨by decide, by decide⟩ : 1 ≤ (Int32.ofInt 1 : Int32).toInt ∧ (Int32.ofInt 1 : Int32).toInt ≤ 1) (by decide) (by decide) (by decide) (by decide)
                        have q_v_8664 : v_8664.toInt = x_8365.toInt + 1 := by rw [v_8664_e]; exact tr_addE h_8370 (⟨by decide, by decide⟩ : 1 ≤ (Int32.ofInt 1 : Int32).toInt ∧ (Int32.ofInt 1 : Int32).toInt ≤ 1) (by decide) (by decide)
                        refine lv_iinc (v := v_8664) (lv' := [(4, .int v_8664), (2, .long w_8663), (6, .int x_8657), (5, .int x_8365), (0, .ref mm), (1, .int p0)]) hx hb dX12_solves_278 hl (k := 3) rfl v_8664_e.symm (by decide) rfl (fun ls hl => ?_)
                        refine lv_goto (tgt := 5) hx hb dX12_solves_281 (by decide) ?_
                        exact ih_8368 v_8664 w_8663 ct_8658 H _ ls (tr_w h_v_8664 (by decide) (by decide)) (SZ_end hr8659_0 (by omega) (by omega)) (SZ_piv hE hr8659_0 (by omega) (by omega) g_w_8663 (by omega)) (by have z_0 := tk_0; omega) (by omega) (hP.sub [0, 1, 2, 3, 4, 5, 6, 7, 8, 9, 10, 11, 12, 13] rfl) (hD.sub [0, 1, 2, 3, 4, 5, 6, 7, 8, 9, 10, 11, 12, 13] (by decide) rfl) hS (lv_sub hl [0, 1, 4, 5] rfl)
                      · skip
                        have c_8660_i := Int32.lt_iff_toInt_lt.mp (Int32.not_le.mp c_8660)
                        have h_8662 : 0 ≤ (x_8657 : Int32).toInt ∧ (x_8657 : Int32).toInt ≤ 11 := nr_lt_l h_x_8657 h_8371 c_8660_i (by decide) (by decide)
                        refine lv_iload hx hb dX12_solves_213 (lv_at hl 0 rfl) ?_
                        refine lv_iload hx hb dX12_solves_215 (lv_at hl 2 rfl) ?_
                        refine lv_icmp_ne (tgt := 223) hx hb dX12_solves_217 (by decide) (fun c_8665 => ?_) (fun c_8665 => ?_)
                        · skip
                          have c_8665_i : ¬ (x_8657 : Int32).toInt = (x_8365 : Int32).toInt := (fun q => c_8665 (Int32.toInt_inj.mp q))
                          refine lv_aload_n hx hb dX12_solves_223 rfl (lv_at hl 4 rfl) ?_
                          refine va_get (D := D) (ci := 12) (v := .ref m_m) (C := RX12) (T := TX12) (N := 35) hx hb hts inlX12 hown hK hP 0 rfl rfl 24 (by decide) (hts (Cond.fieldLink RX12 55 "ChanceRingsModel" "m" "[[J") qw_130) (fun _ h9 => h9) rfl dX12_solves_224 ?_
                          refine lv_iload hx hb dX12_solves_227 (lv_at hl 0 rfl) ?_
                          refine va_ald2 hx hb hK hP 1 5 rfl rfl (tr_in h_8662 (by decide) (by decide)) dX12_solves_229 ?_
                          refine tz_v (y := .ref (rr (x_8657 : Int32).toNatClampNeg)) (tz_row rfl (tr_cl (tr_in h_8662 (by decide) (by decide)))) ?_
                          refine lv_iload hx hb dX12_solves_230 (lv_at hl 2 rfl) ?_
                          refine lv_lconst (v := 0) hx hb dX12_solves_232 (by decide) ?_
                          refine tq_ast12 (WS := (fun ct9 : Nat → Nat → Int64 => [(mm, .inr (12, (.int i_thrown :: .ref m_s :: .ref m_spare :: .ref m_kept :: .ref m_undone :: .ref m_triedWay :: .ref m_isKept :: .int i_undoMany :: .ref m_tape :: .int i_length :: .int i_size :: .int i_p :: .int i_at :: .int i_token :: .int i_number :: .int i_letterMany :: .int i_fault :: .int i_faultAt :: .ref m_letters :: .int i_isKnown :: .ref m_choice :: .ref m_row :: .ref m_up :: .ref m_low :: .ref m_m :: .ref m_bestUp :: .ref m_bestLow :: .ref m_replyUp :: .ref m_replyLow :: .ref m_worthUp :: .ref m_worthLow :: .ref m_bestWay :: .int i_seed :: .ref m_told :: .int i_toldMany :: []))), (m_m, .inl (g 5, 12, .inr (.inr (.inr (.inr (fun i => if i < 12 then some (rr i) else none)))))), ((rr 0), .inl (g 1, 13, .inr (.inl (ct9 0)))), ((rr 1), .inl (g 1, 13, .inr (.inl (ct9 1)))), ((rr 2), .inl (g 1, 13, .inr (.inl (ct9 2)))), ((rr 3), .inl (g 1, 13, .inr (.inl (ct9 3)))), ((rr 4), .inl (g 1, 13, .inr (.inl (ct9 4)))), ((rr 5), .inl (g 1, 13, .inr (.inl (ct9 5)))), ((rr 6), .inl (g 1, 13, .inr (.inl (ct9 6)))), ((rr 7), .inl (g 1, 13, .inr (.inl (ct9 7)))), ((rr 8), .inl (g 1, 13, .inr (.inl (ct9 8)))), ((rr 9), .inl (g 1, 13, .inr (.inl (ct9 9)))), ((rr 10), .inl (g 1, 13, .inr (.inl (ct9 10)))), ((rr 11), .inl (g 1, 13, .inr (.inl (ct9 11))))])) (ct := ct_8658) (x := 0) hx hb hK hP hD hS 2 (fun ct i hi => by rcases nr_12 hi with rfl | rfl | rfl | rfl | rfl | rfl | rfl | rfl | rfl | rfl | rfl | rfl <;> rfl) (fun ct i f9 hi => by rcases nr_12 hi with rfl | rfl | rfl | rfl | rfl | rfl | rfl | rfl | rfl | rfl | rfl | rfl <;> rfl) (tr_in h_8662 (by decide) (by decide)) (tr_in h_8370 (by decide) (by decide)) dX12_solves_233 (fun ct_8666 ct_8666_e H locs hP hD hS => ?_)
                          have hP : va_P D vwCl [(mm, .inr (12, (.int i_thrown :: .ref m_s :: .ref m_spare :: .ref m_kept :: .ref m_undone :: .ref m_triedWay :: .ref m_isKept :: .int i_undoMany :: .ref m_tape :: .int i_length :: .int i_size :: .int i_p :: .int i_at :: .int i_token :: .int i_number :: .int i_letterMany :: .int i_fault :: .int i_faultAt :: .ref m_letters :: .int i_isKnown :: .ref m_choice :: .ref m_row :: .ref m_up :: .ref m_low :: .ref m_m :: .ref m_bestUp :: .ref m_bestLow :: .ref m_replyUp :: .ref m_replyLow :: .ref m_worthUp :: .ref m_worthLow :: .ref m_bestWay :: .int i_seed :: .ref m_told :: .int i_toldMany :: []))), (m_m, .inl (g 5, 12, .inr (.inr (.inr (.inr (fun i => if i < 12 then some (rr i) else none)))))), ((rr 0), .inl (g 1, 13, .inr (.inl (ct_8666 0)))), ((rr 1), .inl (g 1, 13, .inr (.inl (ct_8666 1)))), ((rr 2), .inl (g 1, 13, .inr (.inl (ct_8666 2)))), ((rr 3), .inl (g 1, 13, .inr (.inl (ct_8666 3)))), ((rr 4), .inl (g 1, 13, .inr (.inl (ct_8666 4)))), ((rr 5), .inl (g 1, 13, .inr (.inl (ct_8666 5)))), ((rr 6), .inl (g 1, 13, .inr (.inl (ct_8666 6)))), ((rr 7), .inl (g 1, 13, .inr (.inl (ct_8666 7)))), ((rr 8), .inl (g 1, 13, .inr (.inl (ct_8666 8)))), ((rr 9), .inl (g 1, 13, .inr (.inl (ct_8666 9)))), ((rr 10), .inl (g 1, 13, .inr (.inl (ct_8666 10)))), ((rr 11), .inl (g 1, 13, .inr (.inl (ct_8666 11))))] H := hP
                          have hD : va_D A [(mm, .inr (12, (.int i_thrown :: .ref m_s :: .ref m_spare :: .ref m_kept :: .ref m_undone :: .ref m_triedWay :: .ref m_isKept :: .int i_undoMany :: .ref m_tape :: .int i_length :: .int i_size :: .int i_p :: .int i_at :: .int i_token :: .int i_number :: .int i_letterMany :: .int i_fault :: .int i_faultAt :: .ref m_letters :: .int i_isKnown :: .ref m_choice :: .ref m_row :: .ref m_up :: .ref m_low :: .ref m_m :: .ref m_bestUp :: .ref m_bestLow :: .ref m_replyUp :: .ref m_replyLow :: .ref m_worthUp :: .ref m_worthLow :: .ref m_bestWay :: .int i_seed :: .ref m_told :: .int i_toldMany :: []))), (m_m, .inl (g 5, 12, .inr (.inr (.inr (.inr (fun i => if i < 12 then some (rr i) else none)))))), ((rr 0), .inl (g 1, 13, .inr (.inl (ct_8666 0)))), ((rr 1), .inl (g 1, 13, .inr (.inl (ct_8666 1)))), ((rr 2), .inl (g 1, 13, .inr (.inl (ct_8666 2)))), ((rr 3), .inl (g 1, 13, .inr (.inl (ct_8666 3)))), ((rr 4), .inl (g 1, 13, .inr (.inl (ct_8666 4)))), ((rr 5), .inl (g 1, 13, .inr (.inl (ct_8666 5)))), ((rr 6), .inl (g 1, 13, .inr (.inl (ct_8666 6)))), ((rr 7), .inl (g 1, 13, .inr (.inl (ct_8666 7)))), ((rr 8), .inl (g 1, 13, .inr (.inl (ct_8666 8)))), ((rr 9), .inl (g 1, 13, .inr (.inl (ct_8666 9)))), ((rr 10), .inl (g 1, 13, .inr (.inl (ct_8666 10)))), ((rr 11), .inl (g 1, 13, .inr (.inl (ct_8666 11))))] := hD
                          have g_ct_8666 : ct_8666 = tup ct_8658 (x_8657.toInt.toNat) (x_8365.toInt.toNat) 0 := ct_8666_e.trans (tup_cg (rfl : (x_8657 : Int32).toNatClampNeg = x_8657.toInt.toNat) (rfl : (x_8365 : Int32).toNatClampNeg = x_8365.toInt.toNat))
                          refine lv_iload hx hb dX12_solves_234 (lv_at hl 0 rfl) ?_
                          refine lv_iload hx hb dX12_solves_236 (lv_at hl 2 rfl) ?_
                          refine lv_icmp_ge (tgt := 261) hx hb dX12_solves_238 (by decide) (fun c_8667 => ?_) (fun c_8667 => ?_)
                          · skip
                            have c_8667_i := Int32.le_iff_toInt_le.mp c_8667
                            obtain ⟨v_8670, v_8670_e⟩ : ∃ y : Int32, y = x_8657 + Int32.ofInt 1 := ⟨_, rfl⟩
                            have h_v_8670 : 1 ≤ (v_8670 : Int32).toInt ∧ (v_8670 : Int32).toInt ≤ 12 := by rw [v_8670_e]; exact tr_add h_8662 (⟨by decide, by decide⟩ : 1 ≤ (Int32.ofInt 1 : Int32).toInt ∧ (Int32.ofInt 1 : Int32).toInt ≤ 1) (by decide) (by decide) (by decide) (by decide)
                            have q_v_8670 : v_8670.toInt = x_8657.toInt + 1 := by rw [v_8670_e]; exact tr_addE h_8662 (⟨by decide, by decide⟩ : 1 ≤ (Int32.ofInt 1 : Int32).toInt ∧ (Int32.ofInt 1 : Int32).toInt ≤ 1) (by decide) (by decide)
                            refine lv_iinc (v := v_8670) (lv' := [(6, .int v_8670), (5, .int x_8365), (4, .int x_8365), (2, .long x_8366), (0, .ref mm), (1, .int p0)]) hx hb dX12_solves_261 hl (k := 0) rfl v_8670_e.symm (by decide) rfl (fun ls hl => ?_)
                            refine lv_goto (tgt := 207) hx hb dX12_solves_264 (by decide) ?_
                            exact ih_8659 v_8670 ct_8666 H _ ls (tr_w h_v_8670 (by decide) (by decide)) (SZ_one hE hr8659_0 (by omega) (by omega) (by omega) (by omega) (by decide) g_ct_8666) (by omega) (hP.sub [0, 1, 2, 3, 4, 5, 6, 7, 8, 9, 10, 11, 12, 13] rfl) (hD.sub [0, 1, 2, 3, 4, 5, 6, 7, 8, 9, 10, 11, 12, 13] (by decide) rfl) hS (lv_sub hl [0, 1, 2, 3, 4, 5] rfl)
                          · skip
                            have c_8667_i := Int32.lt_iff_toInt_lt.mp (Int32.not_le.mp c_8667)
                            have h_8668 : 0 ≤ (x_8657 : Int32).toInt ∧ (x_8657 : Int32).toInt ≤ 10 := nr_lt_l h_8662 h_8370 c_8667_i (by decide) (by decide)
                            have h_8669 : 1 ≤ (x_8365 : Int32).toInt ∧ (x_8365 : Int32).toInt ≤ 11 := nr_lt_r h_8662 h_8370 c_8667_i (by decide) (by decide)
                            refine lv_aload_n hx hb dX12_solves_241 rfl (lv_at hl 4 rfl) ?_
                            refine va_get (D := D) (ci := 12) (v := .ref m_m) (C := RX12) (T := TX12) (N := 35) hx hb hts inlX12 hown hK hP 0 rfl rfl 24 (by decide) (hts (Cond.fieldLink RX12 55 "ChanceRingsModel" "m" "[[J") qw_130) (fun _ h9 => h9) rfl dX12_solves_242 ?_
                            refine lv_iload hx hb dX12_solves_245 (lv_at hl 0 rfl) ?_
                            refine va_ald2 hx hb hK hP 1 5 rfl rfl (tr_in h_8668 (by decide) (by decide)) dX12_solves_247 ?_
                            refine tz_v (y := .ref (rr (x_8657 : Int32).toNatClampNeg)) (tz_row rfl (tr_cl (tr_in h_8668 (by decide) (by decide)))) ?_
                            refine lv_iload hx hb dX12_solves_248 (lv_at hl 0 rfl) ?_
                            refine lv_aload_n hx hb dX12_solves_250 rfl (lv_at hl 4 rfl) ?_
                            refine va_get (D := D) (ci := 12) (v := .ref m_m) (C := RX12) (T := TX12) (N := 35) hx hb hts inlX12 hown hK hP 0 rfl rfl 24 (by decide) (hts (Cond.fieldLink RX12 55 "ChanceRingsModel" "m" "[[J") qw_130) (fun _ h9 => h9) rfl dX12_solves_251 ?_
                            refine lv_iload hx hb dX12_solves_254 (lv_at hl 2 rfl) ?_
                            refine va_ald2 hx hb hK hP 1 5 rfl rfl (tr_in h_8669 (by decide) (by decide)) dX12_solves_256 ?_
                            refine tz_v (y := .ref (rr (x_8365 : Int32).toNatClampNeg)) (tz_row rfl (tr_cl (tr_in h_8669 (by decide) (by decide)))) ?_
                            refine lv_iload hx hb dX12_solves_257 (lv_at hl 2 rfl) ?_
                            refine tq_ald12 (WS := (fun ct9 : Nat → Nat → Int64 => [(mm, .inr (12, (.int i_thrown :: .ref m_s :: .ref m_spare :: .ref m_kept :: .ref m_undone :: .ref m_triedWay :: .ref m_isKept :: .int i_undoMany :: .ref m_tape :: .int i_length :: .int i_size :: .int i_p :: .int i_at :: .int i_token :: .int i_number :: .int i_letterMany :: .int i_fault :: .int i_faultAt :: .ref m_letters :: .int i_isKnown :: .ref m_choice :: .ref m_row :: .ref m_up :: .ref m_low :: .ref m_m :: .ref m_bestUp :: .ref m_bestLow :: .ref m_replyUp :: .ref m_replyLow :: .ref m_worthUp :: .ref m_worthLow :: .ref m_bestWay :: .int i_seed :: .ref m_told :: .int i_toldMany :: []))), (m_m, .inl (g 5, 12, .inr (.inr (.inr (.inr (fun i => if i < 12 then some (rr i) else none)))))), ((rr 0), .inl (g 1, 13, .inr (.inl (ct9 0)))), ((rr 1), .inl (g 1, 13, .inr (.inl (ct9 1)))), ((rr 2), .inl (g 1, 13, .inr (.inl (ct9 2)))), ((rr 3), .inl (g 1, 13, .inr (.inl (ct9 3)))), ((rr 4), .inl (g 1, 13, .inr (.inl (ct9 4)))), ((rr 5), .inl (g 1, 13, .inr (.inl (ct9 5)))), ((rr 6), .inl (g 1, 13, .inr (.inl (ct9 6)))), ((rr 7), .inl (g 1, 13, .inr (.inl (ct9 7)))), ((rr 8), .inl (g 1, 13, .inr (.inl (ct9 8)))), ((rr 9), .inl (g 1, 13, .inr (.inl (ct9 9)))), ((rr 10), .inl (g 1, 13, .inr (.inl (ct9 10)))), ((rr 11), .inl (g 1, 13, .inr (.inl (ct9 11))))])) (ct := ct_8666) hx hb hK hP 2 (fun ct i hi => by rcases nr_12 hi with rfl | rfl | rfl | rfl | rfl | rfl | rfl | rfl | rfl | rfl | rfl | rfl <;> rfl) (tr_in h_8669 (by decide) (by decide)) (tr_in h_8669 (by decide) (by decide)) dX12_solves_259 ?_
                            refine lv_topl (fun w_8671 w_8671_e => ?_)
                            have g_w_8671 : w_8671 = ct_8666 (x_8365.toInt.toNat) (x_8365.toInt.toNat) := w_8671_e.trans (congr (congrArg ct_8666 (rfl : (x_8365 : Int32).toNatClampNeg = x_8365.toInt.toNat)) (rfl : (x_8365 : Int32).toNatClampNeg = x_8365.toInt.toNat))
                            refine tq_ast12 (WS := (fun ct9 : Nat → Nat → Int64 => [(mm, .inr (12, (.int i_thrown :: .ref m_s :: .ref m_spare :: .ref m_kept :: .ref m_undone :: .ref m_triedWay :: .ref m_isKept :: .int i_undoMany :: .ref m_tape :: .int i_length :: .int i_size :: .int i_p :: .int i_at :: .int i_token :: .int i_number :: .int i_letterMany :: .int i_fault :: .int i_faultAt :: .ref m_letters :: .int i_isKnown :: .ref m_choice :: .ref m_row :: .ref m_up :: .ref m_low :: .ref m_m :: .ref m_bestUp :: .ref m_bestLow :: .ref m_replyUp :: .ref m_replyLow :: .ref m_worthUp :: .ref m_worthLow :: .ref m_bestWay :: .int i_seed :: .ref m_told :: .int i_toldMany :: []))), (m_m, .inl (g 5, 12, .inr (.inr (.inr (.inr (fun i => if i < 12 then some (rr i) else none)))))), ((rr 0), .inl (g 1, 13, .inr (.inl (ct9 0)))), ((rr 1), .inl (g 1, 13, .inr (.inl (ct9 1)))), ((rr 2), .inl (g 1, 13, .inr (.inl (ct9 2)))), ((rr 3), .inl (g 1, 13, .inr (.inl (ct9 3)))), ((rr 4), .inl (g 1, 13, .inr (.inl (ct9 4)))), ((rr 5), .inl (g 1, 13, .inr (.inl (ct9 5)))), ((rr 6), .inl (g 1, 13, .inr (.inl (ct9 6)))), ((rr 7), .inl (g 1, 13, .inr (.inl (ct9 7)))), ((rr 8), .inl (g 1, 13, .inr (.inl (ct9 8)))), ((rr 9), .inl (g 1, 13, .inr (.inl (ct9 9)))), ((rr 10), .inl (g 1, 13, .inr (.inl (ct9 10)))), ((rr 11), .inl (g 1, 13, .inr (.inl (ct9 11))))])) (ct := ct_8666) (x := w_8671) hx hb hK hP hD hS 2 (fun ct i hi => by rcases nr_12 hi with rfl | rfl | rfl | rfl | rfl | rfl | rfl | rfl | rfl | rfl | rfl | rfl <;> rfl) (fun ct i f9 hi => by rcases nr_12 hi with rfl | rfl | rfl | rfl | rfl | rfl | rfl | rfl | rfl | rfl | rfl | rfl <;> rfl) (tr_in h_8668 (by decide) (by decide)) (tr_in h_8668 (by decide) (by decide)) dX12_solves_260 (fun ct_8672 ct_8672_e H locs hP hD hS => ?_)
                            have hP : va_P D vwCl [(mm, .inr (12, (.int i_thrown :: .ref m_s :: .ref m_spare :: .ref m_kept :: .ref m_undone :: .ref m_triedWay :: .ref m_isKept :: .int i_undoMany :: .ref m_tape :: .int i_length :: .int i_size :: .int i_p :: .int i_at :: .int i_token :: .int i_number :: .int i_letterMany :: .int i_fault :: .int i_faultAt :: .ref m_letters :: .int i_isKnown :: .ref m_choice :: .ref m_row :: .ref m_up :: .ref m_low :: .ref m_m :: .ref m_bestUp :: .ref m_bestLow :: .ref m_replyUp :: .ref m_replyLow :: .ref m_worthUp :: .ref m_worthLow :: .ref m_bestWay :: .int i_seed :: .ref m_told :: .int i_toldMany :: []))), (m_m, .inl (g 5, 12, .inr (.inr (.inr (.inr (fun i => if i < 12 then some (rr i) else none)))))), ((rr 0), .inl (g 1, 13, .inr (.inl (ct_8672 0)))), ((rr 1), .inl (g 1, 13, .inr (.inl (ct_8672 1)))), ((rr 2), .inl (g 1, 13, .inr (.inl (ct_8672 2)))), ((rr 3), .inl (g 1, 13, .inr (.inl (ct_8672 3)))), ((rr 4), .inl (g 1, 13, .inr (.inl (ct_8672 4)))), ((rr 5), .inl (g 1, 13, .inr (.inl (ct_8672 5)))), ((rr 6), .inl (g 1, 13, .inr (.inl (ct_8672 6)))), ((rr 7), .inl (g 1, 13, .inr (.inl (ct_8672 7)))), ((rr 8), .inl (g 1, 13, .inr (.inl (ct_8672 8)))), ((rr 9), .inl (g 1, 13, .inr (.inl (ct_8672 9)))), ((rr 10), .inl (g 1, 13, .inr (.inl (ct_8672 10)))), ((rr 11), .inl (g 1, 13, .inr (.inl (ct_8672 11))))] H := hP
                            have hD : va_D A [(mm, .inr (12, (.int i_thrown :: .ref m_s :: .ref m_spare :: .ref m_kept :: .ref m_undone :: .ref m_triedWay :: .ref m_isKept :: .int i_undoMany :: .ref m_tape :: .int i_length :: .int i_size :: .int i_p :: .int i_at :: .int i_token :: .int i_number :: .int i_letterMany :: .int i_fault :: .int i_faultAt :: .ref m_letters :: .int i_isKnown :: .ref m_choice :: .ref m_row :: .ref m_up :: .ref m_low :: .ref m_m :: .ref m_bestUp :: .ref m_bestLow :: .ref m_replyUp :: .ref m_replyLow :: .ref m_worthUp :: .ref m_worthLow :: .ref m_bestWay :: .int i_seed :: .ref m_told :: .int i_toldMany :: []))), (m_m, .inl (g 5, 12, .inr (.inr (.inr (.inr (fun i => if i < 12 then some (rr i) else none)))))), ((rr 0), .inl (g 1, 13, .inr (.inl (ct_8672 0)))), ((rr 1), .inl (g 1, 13, .inr (.inl (ct_8672 1)))), ((rr 2), .inl (g 1, 13, .inr (.inl (ct_8672 2)))), ((rr 3), .inl (g 1, 13, .inr (.inl (ct_8672 3)))), ((rr 4), .inl (g 1, 13, .inr (.inl (ct_8672 4)))), ((rr 5), .inl (g 1, 13, .inr (.inl (ct_8672 5)))), ((rr 6), .inl (g 1, 13, .inr (.inl (ct_8672 6)))), ((rr 7), .inl (g 1, 13, .inr (.inl (ct_8672 7)))), ((rr 8), .inl (g 1, 13, .inr (.inl (ct_8672 8)))), ((rr 9), .inl (g 1, 13, .inr (.inl (ct_8672 9)))), ((rr 10), .inl (g 1, 13, .inr (.inl (ct_8672 10)))), ((rr 11), .inl (g 1, 13, .inr (.inl (ct_8672 11))))] := hD
                            have g_ct_8672 : ct_8672 = tup ct_8666 (x_8657.toInt.toNat) (x_8657.toInt.toNat) w_8671 := ct_8672_e.trans (tup_cg (rfl : (x_8657 : Int32).toNatClampNeg = x_8657.toInt.toNat) (rfl : (x_8657 : Int32).toNatClampNeg = x_8657.toInt.toNat))
                            obtain ⟨v_8673, v_8673_e⟩ : ∃ y : Int32, y = x_8657 + Int32.ofInt 1 := ⟨_, rfl⟩
                            have h_v_8673 : 1 ≤ (v_8673 : Int32).toInt ∧ (v_8673 : Int32).toInt ≤ 11 := by rw [v_8673_e]; exact tr_add h_8668 (⟨by decide, by decide⟩ : 1 ≤ (Int32.ofInt 1 : Int32).toInt ∧ (Int32.ofInt 1 : Int32).toInt ≤ 1) (by decide) (by decide) (by decide) (by decide)
                            have q_v_8673 : v_8673.toInt = x_8657.toInt + 1 := by rw [v_8673_e]; exact tr_addE h_8668 (⟨by decide, by decide⟩ : 1 ≤ (Int32.ofInt 1 : Int32).toInt ∧ (Int32.ofInt 1 : Int32).toInt ≤ 1) (by decide) (by decide)
                            refine lv_iinc (v := v_8673) (lv' := [(6, .int v_8673), (5, .int x_8365), (4, .int x_8365), (2, .long x_8366), (0, .ref mm), (1, .int p0)]) hx hb dX12_solves_261 hl (k := 0) rfl v_8673_e.symm (by decide) rfl (fun ls hl => ?_)
                            refine lv_goto (tgt := 207) hx hb dX12_solves_264 (by decide) ?_
                            exact ih_8659 v_8673 ct_8672 H _ ls (tr_w h_v_8673 (by decide) (by decide)) (SZ_two hE hr8659_0 (by omega) (by omega) (by omega) (by decide) g_ct_8666 g_w_8671 g_ct_8672) (by omega) (hP.sub [0, 1, 2, 3, 4, 5, 6, 7, 8, 9, 10, 11, 12, 13] rfl) (hD.sub [0, 1, 2, 3, 4, 5, 6, 7, 8, 9, 10, 11, 12, 13] (by decide) rfl) hS (lv_sub hl [0, 1, 2, 3, 4, 5] rfl)
                        · skip
                          have c_8665_i : (x_8657 : Int32).toInt = (x_8365 : Int32).toInt := congrArg Int32.toInt c_8665
                          refine lv_goto (tgt := 261) hx hb dX12_solves_220 (by decide) ?_
                          obtain ⟨v_8674, v_8674_e⟩ : ∃ y : Int32, y = x_8657 + Int32.ofInt 1 := ⟨_, rfl⟩
                          have h_v_8674 : 1 ≤ (v_8674 : Int32).toInt ∧ (v_8674 : Int32).toInt ≤ 12 := by rw [v_8674_e]; exact tr_add h_8662 (⟨by decide, by decide⟩ : 1 ≤ (Int32.ofInt 1 : Int32).toInt ∧ (Int32.ofInt 1 : Int32).toInt ≤ 1) (by decide) (by decide) (by decide) (by decide)
                          have q_v_8674 : v_8674.toInt = x_8657.toInt + 1 := by rw [v_8674_e]; exact tr_addE h_8662 (⟨by decide, by decide⟩ : 1 ≤ (Int32.ofInt 1 : Int32).toInt ∧ (Int32.ofInt 1 : Int32).toInt ≤ 1) (by decide) (by decide)
                          refine lv_iinc (v := v_8674) (lv' := [(6, .int v_8674), (5, .int x_8365), (4, .int x_8365), (2, .long x_8366), (0, .ref mm), (1, .int p0)]) hx hb dX12_solves_261 hl (k := 0) rfl v_8674_e.symm (by decide) rfl (fun ls hl => ?_)
                          refine lv_goto (tgt := 207) hx hb dX12_solves_264 (by decide) ?_
                          exact ih_8659 v_8674 ct_8658 H _ ls (tr_w h_v_8674 (by decide) (by decide)) (SZ_skip hE hr8659_0 (by (first | (clear h_v_8373 z_8375 h_x_8618 h_8622; omega) | omega)) (by (first | (clear h_v_8373 z_8375 h_x_8618 h_8622; omega) | omega)) (by (first | (clear h_v_8373 z_8375 h_x_8618 h_8622; omega) | omega))) (by (first | (clear h_v_8373 z_8375 h_x_8618 h_8622; omega) | omega)) (hP.sub [0, 1, 2, 3, 4, 5, 6, 7, 8, 9, 10, 11, 12, 13] rfl) (hD.sub [0, 1, 2, 3, 4, 5, 6, 7, 8, 9, 10, 11, 12, 13] (by decide) rfl) hS (lv_sub hl [0, 1, 2, 3, 4, 5] rfl)
                  exact lp_8659 13 0 ct_8619 H _ ls (⟨by decide, by decide⟩ : 0 ≤ (0 : Int32).toInt ∧ (0 : Int32).toInt ≤ 12) (SZ_start hr8620_0 (by (first | (clear h_p0 h_x_8365 c_8369_i h_8370 h_8371 g_w_8372 h_v_8373 z_8375 c_8377_i c_8378_i h_x_8618 c_8621_i h_8622; omega) | omega))) (by decide) (hP.sub [0, 1, 2, 3, 4, 5, 6, 7, 8, 9, 10, 11, 12, 13] rfl) (hD.sub [0, 1, 2, 3, 4, 5, 6, 7, 8, 9, 10, 11, 12, 13] (by decide) rfl) hS (lv_sub hl [0, 1, 2, 3, 4, 5] rfl)
                · skip
                  have c_8621_i := Int32.lt_iff_toInt_lt.mp (Int32.not_le.mp c_8621)
                  have h_8623 : 0 ≤ (x_8618 : Int32).toInt ∧ (x_8618 : Int32).toInt ≤ 11 := nr_lt_l h_x_8618 h_8371 c_8621_i (by decide) (by decide)
                  refine lv_iload_n hx hb dX12_solves_112 rfl (lv_at hl 5 rfl) ?_
                  refine lv_istore (lv' := [(7, .int p0), (6, .int x_8618), (5, .int x_8365), (4, .int x_8365), (2, .long x_8366), (0, .ref mm), (1, .int p0)]) hx hb dX12_solves_113 hl (by decide) rfl (fun ls hl => ?_)
                  have lp_8720 : ∀ (n_8720 : Nat) (x_8718 : Int32) (ct_8719 : Nat → Nat → Int64) (H : Heap) (locs : List Loc) (ls : Array Slot), ((-1) ≤ (x_8718 : Int32).toInt ∧ (x_8718 : Int32).toInt ≤ 12) → (SY (p0 : Int32).toInt.toNat (tI ct) x_8365.toInt.toNat x_8618.toInt.toNat (x_8718 : Int32).toInt ct_8719) → (x_8718.toInt - (-1) < (n_8720 : Int)) → va_P D vwCl [(mm, .inr (12, (.int i_thrown :: .ref m_s :: .ref m_spare :: .ref m_kept :: .ref m_undone :: .ref m_triedWay :: .ref m_isKept :: .int i_undoMany :: .ref m_tape :: .int i_length :: .int i_size :: .int i_p :: .int i_at :: .int i_token :: .int i_number :: .int i_letterMany :: .int i_fault :: .int i_faultAt :: .ref m_letters :: .int i_isKnown :: .ref m_choice :: .ref m_row :: .ref m_up :: .ref m_low :: .ref m_m :: .ref m_bestUp :: .ref m_bestLow :: .ref m_replyUp :: .ref m_replyLow :: .ref m_worthUp :: .ref m_worthLow :: .ref m_bestWay :: .int i_seed :: .ref m_told :: .int i_toldMany :: []))), (m_m, .inl (g 5, 12, .inr (.inr (.inr (.inr (fun i => if i < 12 then some (rr i) else none)))))), ((rr 0), .inl (g 1, 13, .inr (.inl (ct_8719 0)))), ((rr 1), .inl (g 1, 13, .inr (.inl (ct_8719 1)))), ((rr 2), .inl (g 1, 13, .inr (.inl (ct_8719 2)))), ((rr 3), .inl (g 1, 13, .inr (.inl (ct_8719 3)))), ((rr 4), .inl (g 1, 13, .inr (.inl (ct_8719 4)))), ((rr 5), .inl (g 1, 13, .inr (.inl (ct_8719 5)))), ((rr 6), .inl (g 1, 13, .inr (.inl (ct_8719 6)))), ((rr 7), .inl (g 1, 13, .inr (.inl (ct_8719 7)))), ((rr 8), .inl (g 1, 13, .inr (.inl (ct_8719 8)))), ((rr 9), .inl (g 1, 13, .inr (.inl (ct_8719 9)))), ((rr 10), .inl (g 1, 13, .inr (.inl (ct_8719 10)))), ((rr 11), .inl (g 1, 13, .inr (.inl (ct_8719 11))))] H → va_D A [(mm, .inr (12, (.int i_thrown :: .ref m_s :: .ref m_spare :: .ref m_kept :: .ref m_undone :: .ref m_triedWay :: .ref m_isKept :: .int i_undoMany :: .ref m_tape :: .int i_length :: .int i_size :: .int i_p :: .int i_at :: .int i_token :: .int i_number :: .int i_letterMany :: .int i_fault :: .int i_faultAt :: .ref m_letters :: .int i_isKnown :: .ref m_choice :: .ref m_row :: .ref m_up :: .ref m_low :: .ref m_m :: .ref m_bestUp :: .ref m_bestLow :: .ref m_replyUp :: .ref m_replyLow :: .ref m_worthUp :: .ref m_worthLow :: .ref m_bestWay :: .int i_seed :: .ref m_told :: .int i_toldMany :: []))), (m_m, .inl (g 5, 12, .inr (.inr (.inr (.inr (fun i => if i < 12 then some (rr i) else none)))))), ((rr 0), .inl (g 1, 13, .inr (.inl (ct_8719 0)))), ((rr 1), .inl (g 1, 13, .inr (.inl (ct_8719 1)))), ((rr 2), .inl (g 1, 13, .inr (.inl (ct_8719 2)))), ((rr 3), .inl (g 1, 13, .inr (.inl (ct_8719 3)))), ((rr 4), .inl (g 1, 13, .inr (.inl (ct_8719 4)))), ((rr 5), .inl (g 1, 13, .inr (.inl (ct_8719 5)))), ((rr 6), .inl (g 1, 13, .inr (.inl (ct_8719 6)))), ((rr 7), .inl (g 1, 13, .inr (.inl (ct_8719 7)))), ((rr 8), .inl (g 1, 13, .inr (.inl (ct_8719 8)))), ((rr 9), .inl (g 1, 13, .inr (.inl (ct_8719 9)))), ((rr 10), .inl (g 1, 13, .inr (.inl (ct_8719 10)))), ((rr 11), .inl (g 1, 13, .inr (.inl (ct_8719 11))))] → va_S A s.heap H locs → lv_has ls 9 [(7, .int x_8718), (6, .int x_8618), (5, .int x_8365), (4, .int x_8365), (2, .long x_8366), (0, .ref mm), (1, .int p0)] → W p l e (headSpec (.code yX12_solves cX12_solves 9 (some .long) :: wsL_law) ({ frames := 0, cells := 0, slots := 0, locals := 0 })).room s m args below meth c H locs 0 0 (MQ below (va_Ql (fun (r u : Int64) => u = r ∧ (True)) (fun r t => ∃ oct : Nat → Nat → Int64, (SM (p0 : Int32).toInt.toNat (tI ct) (p0 : Int32).toInt.toNat oct) ∧ ((r : Int64).toInt = eb (tI ct) (p0 : Int32).toInt.toNat) ∧ va_P D vwCl [(mm, .inr (12, (.int i_thrown :: .ref m_s :: .ref m_spare :: .ref m_kept :: .ref m_undone :: .ref m_triedWay :: .ref m_isKept :: .int i_undoMany :: .ref m_tape :: .int i_length :: .int i_size :: .int i_p :: .int i_at :: .int i_token :: .int i_number :: .int i_letterMany :: .int i_fault :: .int i_faultAt :: .ref m_letters :: .int i_isKnown :: .ref m_choice :: .ref m_row :: .ref m_up :: .ref m_low :: .ref m_m :: .ref m_bestUp :: .ref m_bestLow :: .ref m_replyUp :: .ref m_replyLow :: .ref m_worthUp :: .ref m_worthLow :: .ref m_bestWay :: .int i_seed :: .ref m_told :: .int i_toldMany :: []))), (m_m, .inl (g 5, 12, .inr (.inr (.inr (.inr (fun i => if i < 12 then some (rr i) else none)))))), ((rr 0), .inl (g 1, 13, .inr (.inl (oct 0)))), ((rr 1), .inl (g 1, 13, .inr (.inl (oct 1)))), ((rr 2), .inl (g 1, 13, .inr (.inl (oct 2)))), ((rr 3), .inl (g 1, 13, .inr (.inl (oct 3)))), ((rr 4), .inl (g 1, 13, .inr (.inl (oct 4)))), ((rr 5), .inl (g 1, 13, .inr (.inl (oct 5)))), ((rr 6), .inl (g 1, 13, .inr (.inl (oct 6)))), ((rr 7), .inl (g 1, 13, .inr (.inl (oct 7)))), ((rr 8), .inl (g 1, 13, .inr (.inl (oct 8)))), ((rr 9), .inl (g 1, 13, .inr (.inl (oct 9)))), ((rr 10), .inl (g 1, 13, .inr (.inl (oct 10)))), ((rr 11), .inl (g 1, 13, .inr (.inl (oct 11))))] t.heap ∧ va_D A [(mm, .inr (12, (.int i_thrown :: .ref m_s :: .ref m_spare :: .ref m_kept :: .ref m_undone :: .ref m_triedWay :: .ref m_isKept :: .int i_undoMany :: .ref m_tape :: .int i_length :: .int i_size :: .int i_p :: .int i_at :: .int i_token :: .int i_number :: .int i_letterMany :: .int i_fault :: .int i_faultAt :: .ref m_letters :: .int i_isKnown :: .ref m_choice :: .ref m_row :: .ref m_up :: .ref m_low :: .ref m_m :: .ref m_bestUp :: .ref m_bestLow :: .ref m_replyUp :: .ref m_replyLow :: .ref m_worthUp :: .ref m_worthLow :: .ref m_bestWay :: .int i_seed :: .ref m_told :: .int i_toldMany :: []))), (m_m, .inl (g 5, 12, .inr (.inr (.inr (.inr (fun i => if i < 12 then some (rr i) else none)))))), ((rr 0), .inl (g 1, 13, .inr (.inl (oct 0)))), ((rr 1), .inl (g 1, 13, .inr (.inl (oct 1)))), ((rr 2), .inl (g 1, 13, .inr (.inl (oct 2)))), ((rr 3), .inl (g 1, 13, .inr (.inl (oct 3)))), ((rr 4), .inl (g 1, 13, .inr (.inl (oct 4)))), ((rr 5), .inl (g 1, 13, .inr (.inl (oct 5)))), ((rr 6), .inl (g 1, 13, .inr (.inl (oct 6)))), ((rr 7), .inl (g 1, 13, .inr (.inl (oct 7)))), ((rr 8), .inl (g 1, 13, .inr (.inl (oct 8)))), ((rr 9), .inl (g 1, 13, .inr (.inl (oct 9)))), ((rr 10), .inl (g 1, 13, .inr (.inl (oct 10)))), ((rr 11), .inl (g 1, 13, .inr (.inl (oct 11))))]) A) args s 0 0 A) (F0 m 115 ls []) := by
                    intro n_8720
                    induction n_8720 with
                    | zero =>
                      intro x_8718 ct_8719 H locs ls h_x_8718 hr8720_0 hm_8720 hP hD hS hl
                      exfalso; omega
                    | succ n_8720 ih_8720 =>
                      intro x_8718 ct_8719 H locs ls h_x_8718 hr8720_0 hm_8720 hP hD hS hl
                      refine lv_iload hx hb dX12_solves_115 (lv_at hl 0 rfl) ?_
                      refine lv_if_lt (tgt := 198) hx hb dX12_solves_117 (by decide) (fun c_8721 => ?_) (fun c_8721 => ?_)
                      · skip
                        have c_8721_i := Int32.lt_iff_toInt_lt.mp c_8721
                        have h_8722 : (-1) ≤ (x_8718 : Int32).toInt ∧ (x_8718 : Int32).toInt ≤ (-1) := nr_lt_l h_x_8718 (⟨by decide, by decide⟩ : 0 ≤ (0 : Int32).toInt ∧ (0 : Int32).toInt ≤ 0) c_8721_i (by decide) (by decide)
                        obtain ⟨v_8724, v_8724_e⟩ : ∃ y : Int32, y = x_8618 + Int32.ofInt 1 := ⟨_, rfl⟩
                        have h_v_8724 : 1 ≤ (v_8724 : Int32).toInt ∧ (v_8724 : Int32).toInt ≤ 12 := by rw [v_8724_e]; exact tr_add h_8623 (⟨by decide, by decide⟩ : 1 ≤ (Int32.ofInt 1 : Int32).toInt ∧ (Int32.ofInt 1 : Int32).toInt ≤ 1) (by decide) (by decide) (by decide) (by decide)
                        have q_v_8724 : v_8724.toInt = x_8618.toInt + 1 := by rw [v_8724_e]; exact tr_addE h_8623 (⟨by decide, by decide⟩ : 1 ≤ (Int32.ofInt 1 : Int32).toInt ∧ (Int32.ofInt 1 : Int32).toInt ≤ 1) (by decide) (by decide)
                        refine lv_iinc (v := v_8724) (lv' := [(6, .int v_8724), (7, .int x_8718), (5, .int x_8365), (4, .int x_8365), (2, .long x_8366), (0, .ref mm), (1, .int p0)]) hx hb dX12_solves_198 hl (k := 1) rfl v_8724_e.symm (by decide) rfl (fun ls hl => ?_)
                        refine lv_goto (tgt := 106) hx hb dX12_solves_201 (by decide) ?_
                        exact ih_8620 v_8724 ct_8719 H _ ls (tr_w h_v_8724 (by decide) (by decide)) (SY_row hr8720_0 (by have z_0 := tk_0; (first | (clear h_x_8365 h_8370 g_w_8372 h_v_8373 z_8375 c_8378_i h_x_8718 c_8721_i h_8722; omega) | omega)) (by (first | (clear h_x_8365 h_8370 g_w_8372 h_v_8373 z_8375 c_8378_i h_x_8718 c_8721_i h_8722; omega) | omega)) (by (first | (clear h_x_8365 h_8370 g_w_8372 h_v_8373 z_8375 c_8378_i h_x_8718 c_8721_i h_8722; omega) | omega))) (by (first | (clear h_x_8365 h_8370 g_w_8372 h_v_8373 z_8375 c_8378_i h_x_8718 c_8721_i h_8722; omega) | omega)) (hP.sub [0, 1, 2, 3, 4, 5, 6, 7, 8, 9, 10, 11, 12, 13] rfl) (hD.sub [0, 1, 2, 3, 4, 5, 6, 7, 8, 9, 10, 11, 12, 13] (by decide) rfl) hS (lv_sub hl [0, 2, 3, 4, 5, 6] rfl)
                      · skip
                        have c_8721_i := Int32.le_iff_toInt_le.mp (Int32.not_lt.mp c_8721)
                        have h_8723 : 0 ≤ (x_8718 : Int32).toInt ∧ (x_8718 : Int32).toInt ≤ 12 := nr_le_r (⟨by decide, by decide⟩ : 0 ≤ (0 : Int32).toInt ∧ (0 : Int32).toInt ≤ 0) h_x_8718 c_8721_i (by decide) (by decide)
                        refine lv_iload hx hb dX12_solves_120 (lv_at hl 1 rfl) ?_
                        refine lv_iload hx hb dX12_solves_122 (lv_at hl 3 rfl) ?_
                        refine lv_icmp_eq (tgt := 192) hx hb dX12_solves_124 (by decide) (fun c_8725 => ?_) (fun c_8725 => ?_)
                        · skip
                          have c_8725_i : (x_8618 : Int32).toInt = (x_8365 : Int32).toInt := congrArg Int32.toInt c_8725
                          obtain ⟨v_8726, v_8726_e⟩ : ∃ y : Int32, y = x_8718 + Int32.ofInt (-1) := ⟨_, rfl⟩
                          have h_v_8726 : (-1) ≤ (v_8726 : Int32).toInt ∧ (v_8726 : Int32).toInt ≤ 11 := by rw [v_8726_e]; exact tr_add h_8723 (⟨by decide, by decide⟩ : (-1) ≤ (Int32.ofInt (-1) : Int32).toInt ∧ (Int32.ofInt (-1) : Int32).toInt ≤ (-1)) (by decide) (by decide) (by decide) (by decide)
                          have q_v_8726 : v_8726.toInt = x_8718.toInt + (-1) := by rw [v_8726_e]; exact tr_addE h_8723 (⟨by decide, by decide⟩ : (-1) ≤ (Int32.ofInt (-1) : Int32).toInt ∧ (Int32.ofInt (-1) : Int32).toInt ≤ (-1)) (by decide) (by decide)
                          refine lv_iinc (v := v_8726) (lv' := [(7, .int v_8726), (6, .int x_8618), (5, .int x_8365), (4, .int x_8365), (2, .long x_8366), (0, .ref mm), (1, .int p0)]) hx hb dX12_solves_192 hl (k := 0) rfl v_8726_e.symm (by decide) rfl (fun ls hl => ?_)
                          refine lv_goto (tgt := 115) hx hb dX12_solves_195 (by decide) ?_
                          exact ih_8720 v_8726 ct_8719 H _ ls (tr_w h_v_8726 (by decide) (by decide)) (SY_skip hr8720_0 (by (first | (clear h_p0 h_x_8365 c_8369_i h_8370 h_8371 g_w_8372 h_v_8373 z_8375 c_8377_i c_8378_i h_x_8618 c_8621_i h_8623 c_8725_i; omega) | omega)) (by (first | (clear h_p0 h_x_8365 c_8369_i h_8370 h_8371 g_w_8372 h_v_8373 z_8375 c_8377_i c_8378_i h_x_8618 c_8621_i h_8623 c_8725_i; omega) | omega))) (by (first | (clear h_p0 h_x_8365 c_8369_i h_8370 h_8371 g_w_8372 h_v_8373 z_8375 c_8377_i c_8378_i h_x_8618 c_8621_i h_8623 c_8725_i; omega) | omega)) (hP.sub [0, 1, 2, 3, 4, 5, 6, 7, 8, 9, 10, 11, 12, 13] rfl) (hD.sub [0, 1, 2, 3, 4, 5, 6, 7, 8, 9, 10, 11, 12, 13] (by decide) rfl) hS (lv_sub hl [0, 1, 2, 3, 4, 5, 6] rfl)
                        · skip
                          have c_8725_i : ¬ (x_8618 : Int32).toInt = (x_8365 : Int32).toInt := (fun q => c_8725 (Int32.toInt_inj.mp q))
                          refine lv_iload hx hb dX12_solves_127 (lv_at hl 0 rfl) ?_
                          refine lv_iload hx hb dX12_solves_129 (lv_at hl 3 rfl) ?_
                          refine lv_icmp_ne (tgt := 137) hx hb dX12_solves_131 (by decide) (fun c_8727 => ?_) (fun c_8727 => ?_)
                          · skip
                            have c_8727_i : ¬ (x_8718 : Int32).toInt = (x_8365 : Int32).toInt := (fun q => c_8727 (Int32.toInt_inj.mp q))
                            refine lv_aload_n hx hb dX12_solves_137 rfl (lv_at hl 5 rfl) ?_
                            refine va_get (D := D) (ci := 12) (v := .ref m_m) (C := RX12) (T := TX12) (N := 35) hx hb hts inlX12 hown hK hP 0 rfl rfl 24 (by decide) (hts (Cond.fieldLink RX12 55 "ChanceRingsModel" "m" "[[J") qw_130) (fun _ h9 => h9) rfl dX12_solves_138 ?_
                            refine lv_iload hx hb dX12_solves_141 (lv_at hl 1 rfl) ?_
                            refine va_ald2 hx hb hK hP 1 5 rfl rfl (tr_in h_8623 (by decide) (by decide)) dX12_solves_143 ?_
                            refine tz_v (y := .ref (rr (x_8618 : Int32).toNatClampNeg)) (tz_row rfl (tr_cl (tr_in h_8623 (by decide) (by decide)))) ?_
                            refine lv_iload hx hb dX12_solves_144 (lv_at hl 0 rfl) ?_
                            refine lv_aload_n hx hb dX12_solves_146 rfl (lv_at hl 5 rfl) ?_
                            refine va_get (D := D) (ci := 12) (v := .ref m_m) (C := RX12) (T := TX12) (N := 35) hx hb hts inlX12 hown hK hP 0 rfl rfl 24 (by decide) (hts (Cond.fieldLink RX12 55 "ChanceRingsModel" "m" "[[J") qw_130) (fun _ h9 => h9) rfl dX12_solves_147 ?_
                            refine lv_iload hx hb dX12_solves_150 (lv_at hl 1 rfl) ?_
                            refine va_ald2 hx hb hK hP 1 5 rfl rfl (tr_in h_8623 (by decide) (by decide)) dX12_solves_152 ?_
                            refine tz_v (y := .ref (rr (x_8618 : Int32).toNatClampNeg)) (tz_row rfl (tr_cl (tr_in h_8623 (by decide) (by decide)))) ?_
                            refine lv_iload hx hb dX12_solves_153 (lv_at hl 0 rfl) ?_
                            refine tq_ald12 (WS := (fun ct9 : Nat → Nat → Int64 => [(mm, .inr (12, (.int i_thrown :: .ref m_s :: .ref m_spare :: .ref m_kept :: .ref m_undone :: .ref m_triedWay :: .ref m_isKept :: .int i_undoMany :: .ref m_tape :: .int i_length :: .int i_size :: .int i_p :: .int i_at :: .int i_token :: .int i_number :: .int i_letterMany :: .int i_fault :: .int i_faultAt :: .ref m_letters :: .int i_isKnown :: .ref m_choice :: .ref m_row :: .ref m_up :: .ref m_low :: .ref m_m :: .ref m_bestUp :: .ref m_bestLow :: .ref m_replyUp :: .ref m_replyLow :: .ref m_worthUp :: .ref m_worthLow :: .ref m_bestWay :: .int i_seed :: .ref m_told :: .int i_toldMany :: []))), (m_m, .inl (g 5, 12, .inr (.inr (.inr (.inr (fun i => if i < 12 then some (rr i) else none)))))), ((rr 0), .inl (g 1, 13, .inr (.inl (ct9 0)))), ((rr 1), .inl (g 1, 13, .inr (.inl (ct9 1)))), ((rr 2), .inl (g 1, 13, .inr (.inl (ct9 2)))), ((rr 3), .inl (g 1, 13, .inr (.inl (ct9 3)))), ((rr 4), .inl (g 1, 13, .inr (.inl (ct9 4)))), ((rr 5), .inl (g 1, 13, .inr (.inl (ct9 5)))), ((rr 6), .inl (g 1, 13, .inr (.inl (ct9 6)))), ((rr 7), .inl (g 1, 13, .inr (.inl (ct9 7)))), ((rr 8), .inl (g 1, 13, .inr (.inl (ct9 8)))), ((rr 9), .inl (g 1, 13, .inr (.inl (ct9 9)))), ((rr 10), .inl (g 1, 13, .inr (.inl (ct9 10)))), ((rr 11), .inl (g 1, 13, .inr (.inl (ct9 11))))])) (ct := ct_8719) hx hb hK hP 2 (fun ct i hi => by rcases nr_12 hi with rfl | rfl | rfl | rfl | rfl | rfl | rfl | rfl | rfl | rfl | rfl | rfl <;> rfl) (tr_in h_8623 (by decide) (by decide)) (tr_in h_8723 (by decide) (by decide)) dX12_solves_155 ?_
                            refine lv_topl (fun w_8729 w_8729_e => ?_)
                            have g_w_8729 : w_8729 = ct_8719 (x_8618.toInt.toNat) (x_8718.toInt.toNat) := w_8729_e.trans (congr (congrArg ct_8719 (rfl : (x_8618 : Int32).toNatClampNeg = x_8618.toInt.toNat)) (rfl : (x_8718 : Int32).toNatClampNeg = x_8718.toInt.toNat))
                            refine lv_aload_n hx hb dX12_solves_156 rfl (lv_at hl 5 rfl) ?_
                            refine va_get (D := D) (ci := 12) (v := .ref m_m) (C := RX12) (T := TX12) (N := 35) hx hb hts inlX12 hown hK hP 0 rfl rfl 24 (by decide) (hts (Cond.fieldLink RX12 55 "ChanceRingsModel" "m" "[[J") qw_130) (fun _ h9 => h9) rfl dX12_solves_157 ?_
                            refine lv_iload hx hb dX12_solves_160 (lv_at hl 3 rfl) ?_
                            refine va_ald2 hx hb hK hP 1 5 rfl rfl (tr_in h_8370 (by decide) (by decide)) dX12_solves_162 ?_
                            refine tz_v (y := .ref (rr (x_8365 : Int32).toNatClampNeg)) (tz_row rfl (tr_cl (tr_in h_8370 (by decide) (by decide)))) ?_
                            refine lv_iload hx hb dX12_solves_163 (lv_at hl 3 rfl) ?_
                            refine tq_ald12 (WS := (fun ct9 : Nat → Nat → Int64 => [(mm, .inr (12, (.int i_thrown :: .ref m_s :: .ref m_spare :: .ref m_kept :: .ref m_undone :: .ref m_triedWay :: .ref m_isKept :: .int i_undoMany :: .ref m_tape :: .int i_length :: .int i_size :: .int i_p :: .int i_at :: .int i_token :: .int i_number :: .int i_letterMany :: .int i_fault :: .int i_faultAt :: .ref m_letters :: .int i_isKnown :: .ref m_choice :: .ref m_row :: .ref m_up :: .ref m_low :: .ref m_m :: .ref m_bestUp :: .ref m_bestLow :: .ref m_replyUp :: .ref m_replyLow :: .ref m_worthUp :: .ref m_worthLow :: .ref m_bestWay :: .int i_seed :: .ref m_told :: .int i_toldMany :: []))), (m_m, .inl (g 5, 12, .inr (.inr (.inr (.inr (fun i => if i < 12 then some (rr i) else none)))))), ((rr 0), .inl (g 1, 13, .inr (.inl (ct9 0)))), ((rr 1), .inl (g 1, 13, .inr (.inl (ct9 1)))), ((rr 2), .inl (g 1, 13, .inr (.inl (ct9 2)))), ((rr 3), .inl (g 1, 13, .inr (.inl (ct9 3)))), ((rr 4), .inl (g 1, 13, .inr (.inl (ct9 4)))), ((rr 5), .inl (g 1, 13, .inr (.inl (ct9 5)))), ((rr 6), .inl (g 1, 13, .inr (.inl (ct9 6)))), ((rr 7), .inl (g 1, 13, .inr (.inl (ct9 7)))), ((rr 8), .inl (g 1, 13, .inr (.inl (ct9 8)))), ((rr 9), .inl (g 1, 13, .inr (.inl (ct9 9)))), ((rr 10), .inl (g 1, 13, .inr (.inl (ct9 10)))), ((rr 11), .inl (g 1, 13, .inr (.inl (ct9 11))))])) (ct := ct_8719) hx hb hK hP 2 (fun ct i hi => by rcases nr_12 hi with rfl | rfl | rfl | rfl | rfl | rfl | rfl | rfl | rfl | rfl | rfl | rfl <;> rfl) (tr_in h_8370 (by decide) (by decide)) (tr_in h_8370 (by decide) (by decide)) dX12_solves_165 ?_
                            refine lv_topl (fun w_8730 w_8730_e => ?_)
                            have g_w_8730 : w_8730 = ct_8719 (x_8365.toInt.toNat) (x_8365.toInt.toNat) := w_8730_e.trans (congr (congrArg ct_8719 (rfl : (x_8365 : Int32).toNatClampNeg = x_8365.toInt.toNat)) (rfl : (x_8365 : Int32).toNatClampNeg = x_8365.toInt.toNat))
                            refine lv_lmul hx hb dX12_solves_166 ?_
                            refine lv_topl (fun w_8731 w_8731_e => ?_)
                            refine lv_aload_n hx hb dX12_solves_167 rfl (lv_at hl 5 rfl) ?_
                            refine va_get (D := D) (ci := 12) (v := .ref m_m) (C := RX12) (T := TX12) (N := 35) hx hb hts inlX12 hown hK hP 0 rfl rfl 24 (by decide) (hts (Cond.fieldLink RX12 55 "ChanceRingsModel" "m" "[[J") qw_130) (fun _ h9 => h9) rfl dX12_solves_168 ?_
                            refine lv_iload hx hb dX12_solves_171 (lv_at hl 1 rfl) ?_
                            refine va_ald2 hx hb hK hP 1 5 rfl rfl (tr_in h_8623 (by decide) (by decide)) dX12_solves_173 ?_
                            refine tz_v (y := .ref (rr (x_8618 : Int32).toNatClampNeg)) (tz_row rfl (tr_cl (tr_in h_8623 (by decide) (by decide)))) ?_
                            refine lv_iload hx hb dX12_solves_174 (lv_at hl 3 rfl) ?_
                            refine tq_ald12 (WS := (fun ct9 : Nat → Nat → Int64 => [(mm, .inr (12, (.int i_thrown :: .ref m_s :: .ref m_spare :: .ref m_kept :: .ref m_undone :: .ref m_triedWay :: .ref m_isKept :: .int i_undoMany :: .ref m_tape :: .int i_length :: .int i_size :: .int i_p :: .int i_at :: .int i_token :: .int i_number :: .int i_letterMany :: .int i_fault :: .int i_faultAt :: .ref m_letters :: .int i_isKnown :: .ref m_choice :: .ref m_row :: .ref m_up :: .ref m_low :: .ref m_m :: .ref m_bestUp :: .ref m_bestLow :: .ref m_replyUp :: .ref m_replyLow :: .ref m_worthUp :: .ref m_worthLow :: .ref m_bestWay :: .int i_seed :: .ref m_told :: .int i_toldMany :: []))), (m_m, .inl (g 5, 12, .inr (.inr (.inr (.inr (fun i => if i < 12 then some (rr i) else none)))))), ((rr 0), .inl (g 1, 13, .inr (.inl (ct9 0)))), ((rr 1), .inl (g 1, 13, .inr (.inl (ct9 1)))), ((rr 2), .inl (g 1, 13, .inr (.inl (ct9 2)))), ((rr 3), .inl (g 1, 13, .inr (.inl (ct9 3)))), ((rr 4), .inl (g 1, 13, .inr (.inl (ct9 4)))), ((rr 5), .inl (g 1, 13, .inr (.inl (ct9 5)))), ((rr 6), .inl (g 1, 13, .inr (.inl (ct9 6)))), ((rr 7), .inl (g 1, 13, .inr (.inl (ct9 7)))), ((rr 8), .inl (g 1, 13, .inr (.inl (ct9 8)))), ((rr 9), .inl (g 1, 13, .inr (.inl (ct9 9)))), ((rr 10), .inl (g 1, 13, .inr (.inl (ct9 10)))), ((rr 11), .inl (g 1, 13, .inr (.inl (ct9 11))))])) (ct := ct_8719) hx hb hK hP 2 (fun ct i hi => by rcases nr_12 hi with rfl | rfl | rfl | rfl | rfl | rfl | rfl | rfl | rfl | rfl | rfl | rfl <;> rfl) (tr_in h_8623 (by decide) (by decide)) (tr_in h_8370 (by decide) (by decide)) dX12_solves_176 ?_
                            refine lv_topl (fun w_8732 w_8732_e => ?_)
                            have g_w_8732 : w_8732 = ct_8719 (x_8618.toInt.toNat) (x_8365.toInt.toNat) := w_8732_e.trans (congr (congrArg ct_8719 (rfl : (x_8618 : Int32).toNatClampNeg = x_8618.toInt.toNat)) (rfl : (x_8365 : Int32).toNatClampNeg = x_8365.toInt.toNat))
                            refine lv_aload_n hx hb dX12_solves_177 rfl (lv_at hl 5 rfl) ?_
                            refine va_get (D := D) (ci := 12) (v := .ref m_m) (C := RX12) (T := TX12) (N := 35) hx hb hts inlX12 hown hK hP 0 rfl rfl 24 (by decide) (hts (Cond.fieldLink RX12 55 "ChanceRingsModel" "m" "[[J") qw_130) (fun _ h9 => h9) rfl dX12_solves_178 ?_
                            refine lv_iload hx hb dX12_solves_181 (lv_at hl 3 rfl) ?_
                            refine va_ald2 hx hb hK hP 1 5 rfl rfl (tr_in h_8370 (by decide) (by decide)) dX12_solves_183 ?_
                            refine tz_v (y := .ref (rr (x_8365 : Int32).toNatClampNeg)) (tz_row rfl (tr_cl (tr_in h_8370 (by decide) (by decide)))) ?_
                            refine lv_iload hx hb dX12_solves_184 (lv_at hl 0 rfl) ?_
                            refine tq_ald12 (WS := (fun ct9 : Nat → Nat → Int64 => [(mm, .inr (12, (.int i_thrown :: .ref m_s :: .ref m_spare :: .ref m_kept :: .ref m_undone :: .ref m_triedWay :: .ref m_isKept :: .int i_undoMany :: .ref m_tape :: .int i_length :: .int i_size :: .int i_p :: .int i_at :: .int i_token :: .int i_number :: .int i_letterMany :: .int i_fault :: .int i_faultAt :: .ref m_letters :: .int i_isKnown :: .ref m_choice :: .ref m_row :: .ref m_up :: .ref m_low :: .ref m_m :: .ref m_bestUp :: .ref m_bestLow :: .ref m_replyUp :: .ref m_replyLow :: .ref m_worthUp :: .ref m_worthLow :: .ref m_bestWay :: .int i_seed :: .ref m_told :: .int i_toldMany :: []))), (m_m, .inl (g 5, 12, .inr (.inr (.inr (.inr (fun i => if i < 12 then some (rr i) else none)))))), ((rr 0), .inl (g 1, 13, .inr (.inl (ct9 0)))), ((rr 1), .inl (g 1, 13, .inr (.inl (ct9 1)))), ((rr 2), .inl (g 1, 13, .inr (.inl (ct9 2)))), ((rr 3), .inl (g 1, 13, .inr (.inl (ct9 3)))), ((rr 4), .inl (g 1, 13, .inr (.inl (ct9 4)))), ((rr 5), .inl (g 1, 13, .inr (.inl (ct9 5)))), ((rr 6), .inl (g 1, 13, .inr (.inl (ct9 6)))), ((rr 7), .inl (g 1, 13, .inr (.inl (ct9 7)))), ((rr 8), .inl (g 1, 13, .inr (.inl (ct9 8)))), ((rr 9), .inl (g 1, 13, .inr (.inl (ct9 9)))), ((rr 10), .inl (g 1, 13, .inr (.inl (ct9 10)))), ((rr 11), .inl (g 1, 13, .inr (.inl (ct9 11))))])) (ct := ct_8719) hx hb hK hP 2 (fun ct i hi => by rcases nr_12 hi with rfl | rfl | rfl | rfl | rfl | rfl | rfl | rfl | rfl | rfl | rfl | rfl <;> rfl) (tr_in h_8370 (by decide) (by decide)) (tr_in h_8723 (by decide) (by decide)) dX12_solves_186 ?_
                            refine lv_topl (fun w_8733 w_8733_e => ?_)
                            have g_w_8733 : w_8733 = ct_8719 (x_8365.toInt.toNat) (x_8718.toInt.toNat) := w_8733_e.trans (congr (congrArg ct_8719 (rfl : (x_8365 : Int32).toNatClampNeg = x_8365.toInt.toNat)) (rfl : (x_8718 : Int32).toNatClampNeg = x_8718.toInt.toNat))
                            refine lv_lmul hx hb dX12_solves_187 ?_
                            refine lv_topl (fun w_8734 w_8734_e => ?_)
                            refine lv_lsub hx hb dX12_solves_188 ?_
                            refine lv_topl (fun w_8735 w_8735_e => ?_)
                            have nzb_8736 : ¬ x_8366 = 0 := tl_nz hr8368_1 (hE.bpos (by (first | (clear h_p0 h_i_undoMany h_i_length h_i_size h_i_p h_i_at h_i_token h_i_number h_i_letterMany h_i_faultAt h_i_isKnown h_i_toldMany hP h_x_8365 c_8369_i h_8370 h_8371 g_w_8372 h_v_8373 z_8375 c_8377_i c_8378_i h_x_8618 c_8621_i h_8623 h_x_8718 c_8721_i h_8723 c_8725_i c_8727_i g_w_8729 g_w_8730 g_w_8732 g_w_8733; omega) | omega)))
                            refine lv_lload_n hx hb dX12_solves_189 rfl (lv_at hl 4 rfl) ?_
                            refine lv_ldiv hx hb dX12_solves_190 nzb_8736 ?_
                            refine lv_topl (fun w_8737 w_8737_e => ?_)
                            refine tq_ast12 (WS := (fun ct9 : Nat → Nat → Int64 => [(mm, .inr (12, (.int i_thrown :: .ref m_s :: .ref m_spare :: .ref m_kept :: .ref m_undone :: .ref m_triedWay :: .ref m_isKept :: .int i_undoMany :: .ref m_tape :: .int i_length :: .int i_size :: .int i_p :: .int i_at :: .int i_token :: .int i_number :: .int i_letterMany :: .int i_fault :: .int i_faultAt :: .ref m_letters :: .int i_isKnown :: .ref m_choice :: .ref m_row :: .ref m_up :: .ref m_low :: .ref m_m :: .ref m_bestUp :: .ref m_bestLow :: .ref m_replyUp :: .ref m_replyLow :: .ref m_worthUp :: .ref m_worthLow :: .ref m_bestWay :: .int i_seed :: .ref m_told :: .int i_toldMany :: []))), (m_m, .inl (g 5, 12, .inr (.inr (.inr (.inr (fun i => if i < 12 then some (rr i) else none)))))), ((rr 0), .inl (g 1, 13, .inr (.inl (ct9 0)))), ((rr 1), .inl (g 1, 13, .inr (.inl (ct9 1)))), ((rr 2), .inl (g 1, 13, .inr (.inl (ct9 2)))), ((rr 3), .inl (g 1, 13, .inr (.inl (ct9 3)))), ((rr 4), .inl (g 1, 13, .inr (.inl (ct9 4)))), ((rr 5), .inl (g 1, 13, .inr (.inl (ct9 5)))), ((rr 6), .inl (g 1, 13, .inr (.inl (ct9 6)))), ((rr 7), .inl (g 1, 13, .inr (.inl (ct9 7)))), ((rr 8), .inl (g 1, 13, .inr (.inl (ct9 8)))), ((rr 9), .inl (g 1, 13, .inr (.inl (ct9 9)))), ((rr 10), .inl (g 1, 13, .inr (.inl (ct9 10)))), ((rr 11), .inl (g 1, 13, .inr (.inl (ct9 11))))])) (ct := ct_8719) (x := w_8737) hx hb hK hP hD hS 2 (fun ct i hi => by rcases nr_12 hi with rfl | rfl | rfl | rfl | rfl | rfl | rfl | rfl | rfl | rfl | rfl | rfl <;> rfl) (fun ct i f9 hi => by rcases nr_12 hi with rfl | rfl | rfl | rfl | rfl | rfl | rfl | rfl | rfl | rfl | rfl | rfl <;> rfl) (tr_in h_8623 (by decide) (by decide)) (tr_in h_8723 (by decide) (by decide)) dX12_solves_191 (fun ct_8738 ct_8738_e H locs hP hD hS => ?_)
                            have hP : va_P D vwCl [(mm, .inr (12, (.int i_thrown :: .ref m_s :: .ref m_spare :: .ref m_kept :: .ref m_undone :: .ref m_triedWay :: .ref m_isKept :: .int i_undoMany :: .ref m_tape :: .int i_length :: .int i_size :: .int i_p :: .int i_at :: .int i_token :: .int i_number :: .int i_letterMany :: .int i_fault :: .int i_faultAt :: .ref m_letters :: .int i_isKnown :: .ref m_choice :: .ref m_row :: .ref m_up :: .ref m_low :: .ref m_m :: .ref m_bestUp :: .ref m_bestLow :: .ref m_replyUp :: .ref m_replyLow :: .ref m_worthUp :: .ref m_worthLow :: .ref m_bestWay :: .int i_seed :: .ref m_told :: .int i_toldMany :: []))), (m_m, .inl (g 5, 12, .inr (.inr (.inr (.inr (fun i => if i < 12 then some (rr i) else none)))))), ((rr 0), .inl (g 1, 13, .inr (.inl (ct_8738 0)))), ((rr 1), .inl (g 1, 13, .inr (.inl (ct_8738 1)))), ((rr 2), .inl (g 1, 13, .inr (.inl (ct_8738 2)))), ((rr 3), .inl (g 1, 13, .inr (.inl (ct_8738 3)))), ((rr 4), .inl (g 1, 13, .inr (.inl (ct_8738 4)))), ((rr 5), .inl (g 1, 13, .inr (.inl (ct_8738 5)))), ((rr 6), .inl (g 1, 13, .inr (.inl (ct_8738 6)))), ((rr 7), .inl (g 1, 13, .inr (.inl (ct_8738 7)))), ((rr 8), .inl (g 1, 13, .inr (.inl (ct_8738 8)))), ((rr 9), .inl (g 1, 13, .inr (.inl (ct_8738 9)))), ((rr 10), .inl (g 1, 13, .inr (.inl (ct_8738 10)))), ((rr 11), .inl (g 1, 13, .inr (.inl (ct_8738 11))))] H := hP
                            have hD : va_D A [(mm, .inr (12, (.int i_thrown :: .ref m_s :: .ref m_spare :: .ref m_kept :: .ref m_undone :: .ref m_triedWay :: .ref m_isKept :: .int i_undoMany :: .ref m_tape :: .int i_length :: .int i_size :: .int i_p :: .int i_at :: .int i_token :: .int i_number :: .int i_letterMany :: .int i_fault :: .int i_faultAt :: .ref m_letters :: .int i_isKnown :: .ref m_choice :: .ref m_row :: .ref m_up :: .ref m_low :: .ref m_m :: .ref m_bestUp :: .ref m_bestLow :: .ref m_replyUp :: .ref m_replyLow :: .ref m_worthUp :: .ref m_worthLow :: .ref m_bestWay :: .int i_seed :: .ref m_told :: .int i_toldMany :: []))), (m_m, .inl (g 5, 12, .inr (.inr (.inr (.inr (fun i => if i < 12 then some (rr i) else none)))))), ((rr 0), .inl (g 1, 13, .inr (.inl (ct_8738 0)))), ((rr 1), .inl (g 1, 13, .inr (.inl (ct_8738 1)))), ((rr 2), .inl (g 1, 13, .inr (.inl (ct_8738 2)))), ((rr 3), .inl (g 1, 13, .inr (.inl (ct_8738 3)))), ((rr 4), .inl (g 1, 13, .inr (.inl (ct_8738 4)))), ((rr 5), .inl (g 1, 13, .inr (.inl (ct_8738 5)))), ((rr 6), .inl (g 1, 13, .inr (.inl (ct_8738 6)))), ((rr 7), .inl (g 1, 13, .inr (.inl (ct_8738 7)))), ((rr 8), .inl (g 1, 13, .inr (.inl (ct_8738 8)))), ((rr 9), .inl (g 1, 13, .inr (.inl (ct_8738 9)))), ((rr 10), .inl (g 1, 13, .inr (.inl (ct_8738 10)))), ((rr 11), .inl (g 1, 13, .inr (.inl (ct_8738 11))))] := hD
                            have g_ct_8738 : ct_8738 = tup ct_8719 (x_8618.toInt.toNat) (x_8718.toInt.toNat) w_8737 := ct_8738_e.trans (tup_cg (rfl : (x_8618 : Int32).toNatClampNeg = x_8618.toInt.toNat) (rfl : (x_8718 : Int32).toNatClampNeg = x_8718.toInt.toNat))
                            obtain ⟨v_8739, v_8739_e⟩ : ∃ y : Int32, y = x_8718 + Int32.ofInt (-1) := ⟨_, rfl⟩
                            have h_v_8739 : (-1) ≤ (v_8739 : Int32).toInt ∧ (v_8739 : Int32).toInt ≤ 11 := by rw [v_8739_e]; exact tr_add h_8723 (⟨by decide, by decide⟩ : (-1) ≤ (Int32.ofInt (-1) : Int32).toInt ∧ (Int32.ofInt (-1) : Int32).toInt ≤ (-1)) (by decide) (by decide) (by decide) (by decide)
                            have q_v_8739 : v_8739.toInt = x_8718.toInt + (-1) := by rw [v_8739_e]; exact tr_addE h_8723 (⟨by decide, by decide⟩ : (-1) ≤ (Int32.ofInt (-1) : Int32).toInt ∧ (Int32.ofInt (-1) : Int32).toInt ≤ (-1)) (by decide) (by decide)
                            refine lv_iinc (v := v_8739) (lv' := [(7, .int v_8739), (6, .int x_8618), (5, .int x_8365), (4, .int x_8365), (2, .long x_8366), (0, .ref mm), (1, .int p0)]) hx hb dX12_solves_192 hl (k := 0) rfl v_8739_e.symm (by decide) rfl (fun ls hl => ?_)
                            refine lv_goto (tgt := 115) hx hb dX12_solves_195 (by decide) ?_
                            exact ih_8720 v_8739 ct_8738 H _ ls (tr_w h_v_8739 (by decide) (by decide)) (SY_put (J := x_8718.toInt.toNat) hr8720_0 (by omega) g_ct_8738 (fun hj9 => by rw [w_8737_e, w_8735_e, w_8731_e, w_8734_e]; exact SY_val hE hr8720_0 (by omega) hr8368_1 (by omega) (by omega) (by omega) g_w_8729 g_w_8730 g_w_8732 g_w_8733 hj9) (by omega) (by omega) (by omega)) (by omega) (hP.sub [0, 1, 2, 3, 4, 5, 6, 7, 8, 9, 10, 11, 12, 13] rfl) (hD.sub [0, 1, 2, 3, 4, 5, 6, 7, 8, 9, 10, 11, 12, 13] (by decide) rfl) hS (lv_sub hl [0, 1, 2, 3, 4, 5, 6] rfl)
                          · skip
                            have c_8727_i : (x_8718 : Int32).toInt = (x_8365 : Int32).toInt := congrArg Int32.toInt c_8727
                            have h_8728 : 0 ≤ (x_8718 : Int32).toInt ∧ (x_8718 : Int32).toInt ≤ 11 := nr_eq_l h_8723 h_8370 c_8727_i (by decide) (by decide)
                            refine lv_goto (tgt := 192) hx hb dX12_solves_134 (by decide) ?_
                            obtain ⟨v_8740, v_8740_e⟩ : ∃ y : Int32, y = x_8718 + Int32.ofInt (-1) := ⟨_, rfl⟩
                            have h_v_8740 : (-1) ≤ (v_8740 : Int32).toInt ∧ (v_8740 : Int32).toInt ≤ 10 := by rw [v_8740_e]; exact tr_add h_8728 (⟨by decide, by decide⟩ : (-1) ≤ (Int32.ofInt (-1) : Int32).toInt ∧ (Int32.ofInt (-1) : Int32).toInt ≤ (-1)) (by decide) (by decide) (by decide) (by decide)
                            have q_v_8740 : v_8740.toInt = x_8718.toInt + (-1) := by rw [v_8740_e]; exact tr_addE h_8728 (⟨by decide, by decide⟩ : (-1) ≤ (Int32.ofInt (-1) : Int32).toInt ∧ (Int32.ofInt (-1) : Int32).toInt ≤ (-1)) (by decide) (by decide)
                            refine lv_iinc (v := v_8740) (lv' := [(7, .int v_8740), (6, .int x_8618), (5, .int x_8365), (4, .int x_8365), (2, .long x_8366), (0, .ref mm), (1, .int p0)]) hx hb dX12_solves_192 hl (k := 0) rfl v_8740_e.symm (by decide) rfl (fun ls hl => ?_)
                            refine lv_goto (tgt := 115) hx hb dX12_solves_195 (by decide) ?_
                            exact ih_8720 v_8740 ct_8719 H _ ls (tr_w h_v_8740 (by decide) (by decide)) (SY_skip hr8720_0 (by (first | (clear h_p0 h_8371 h_v_8373 z_8375 c_8377_i h_x_8618 c_8621_i h_8623; omega) | omega)) (by (first | (clear h_p0 h_8371 h_v_8373 z_8375 c_8377_i h_x_8618 c_8621_i h_8623; omega) | omega))) (by (first | (clear h_p0 h_8371 h_v_8373 z_8375 c_8377_i h_x_8618 c_8621_i h_8623; omega) | omega)) (hP.sub [0, 1, 2, 3, 4, 5, 6, 7, 8, 9, 10, 11, 12, 13] rfl) (hD.sub [0, 1, 2, 3, 4, 5, 6, 7, 8, 9, 10, 11, 12, 13] (by decide) rfl) hS (lv_sub hl [0, 1, 2, 3, 4, 5, 6] rfl)
                  exact lp_8720 14 p0 ct_8619 H _ ls (tr_w h_8371 (by decide) (by decide)) hr8620_0 (by omega) (hP.sub [0, 1, 2, 3, 4, 5, 6, 7, 8, 9, 10, 11, 12, 13] rfl) (hD.sub [0, 1, 2, 3, 4, 5, 6, 7, 8, 9, 10, 11, 12, 13] (by decide) rfl) hS (lv_sub hl [0, 1, 2, 3, 4, 5, 6] rfl)
            exact lp_8620 13 0 ct_8367 H _ ls (⟨by decide, by decide⟩ : 0 ≤ (0 : Int32).toInt ∧ (0 : Int32).toInt ≤ 12) (SY_start hr8368_0 rfl (by omega)) (by decide) (hP.sub [0, 1, 2, 3, 4, 5, 6, 7, 8, 9, 10, 11, 12, 13] rfl) (hD.sub [0, 1, 2, 3, 4, 5, 6, 7, 8, 9, 10, 11, 12, 13] (by decide) rfl) hS (lv_sub hl [0, 1, 2, 3, 4, 5] rfl)
          · skip
            have c_8378_i : ¬ (x_8365 : Int32).toInt = (x_8365 : Int32).toInt := (fun q => c_8378 (Int32.toInt_inj.mp q))
            exact absurd rfl c_8378
        · skip
          have c_8374_i : (v_8373 : Int32).toInt = (0 : Int32).toInt := congrArg Int32.toInt c_8374
          have h_8376 : 0 ≤ (v_8373 : Int32).toInt ∧ (v_8373 : Int32).toInt ≤ 0 := nr_eq_l h_v_8373 (⟨by decide, by decide⟩ : 0 ≤ (0 : Int32).toInt ∧ (0 : Int32).toInt ≤ 0) c_8374_i (by decide) (by decide)
          exact absurd (tl_cmp0 (by rw [← v_8373_e]; exact c_8374)) (by have q9 := SM_piv hE hr8368_0 (by (first | (clear h_i_undoMany h_i_length h_i_size h_i_p h_i_at h_i_token h_i_number h_i_letterMany h_i_faultAt h_i_isKnown h_i_toldMany hP h_v_8373 c_8374_i h_8376; omega) | omega)); have q8 := congrArg Int64.toInt g_w_8372; (first | (clear h_i_undoMany h_i_length h_i_size h_i_p h_i_at h_i_token h_i_number h_i_letterMany h_i_faultAt h_i_isKnown h_i_toldMany hP h_v_8373 c_8374_i h_8376; omega) | omega))
  exact lp_8368 13 0 1 ct s.heap _ ls (⟨by decide, by decide⟩ : 0 ≤ (0 : Int32).toInt ∧ (0 : Int32).toInt ≤ 12) (SM_zero ct) (show (1 : Int64).toInt = eb (tI ct) 0 from (by rw [e_b0]; decide)) (by have z_0 := tk_0; omega) (by decide) (hP.sub [0, 1, 2, 3, 4, 5, 6, 7, 8, 9, 10, 11, 12, 13] rfl) (hD.sub [0, 1, 2, 3, 4, 5, 6, 7, 8, 9, 10, 11, 12, 13] (by decide) rfl) hS (lv_sub hl [0, 1, 2, 3] rfl)
/-! the rows that a play lays -/
abbrev wsel (f c : Nat → Int32) (k i : Nat) : Prop := (f (1 + k)).toInt = 3 ∨ (c k).toInt = (i : Int)
def wwt (f : Nat → Int32) (k i : Nat) : Int := if (f (1 + k)).toInt = 3 then (f (73 + 3 * k + i)).toInt else 1
def wtg (f : Nat → Int32) (k i : Nat) : Nat := (f (37 + 3 * k + i)).toInt.toNat
def gsm (f c : Nat → Int32) (k : Nat) (u : Nat → Int) : Nat → Int
  | 0 => 0
  | i + 1 => gsm f c k u i + (if wsel f c k i then wwt f k i * u (wtg f k i) else 0)
def gsR (f c : Nat → Int32) (k : Nat) (u : Nat → Rat) : Nat → Rat
  | 0 => 0
  | i + 1 => gsR f c k u i + (if wsel f c k i then ((wwt f k i : Int) : Rat) * u (wtg f k i) else 0)
def wys (f : Nat → Int32) (k : Nat) : Nat := (f (25 + k)).toInt.toNat
section GM
variable {f c : Nat → Int32} {k : Nat}
theorem gsR_cast (u : Nat → Int) : ∀ m, ((gsm f c k u m : Int) : Rat) = gsR f c k (fun t => ((u t : Int) : Rat)) m
  | 0 => rfl
  | m + 1 => by
    show ((gsm f c k u m + _ : Int) : Rat) = gsR f c k _ m + _
    rw [Rat.intCast_add, gsR_cast u m]
    by_cases q : wsel f c k m
    · rw [if_pos q, if_pos q, Rat.intCast_mul]
    · rw [if_neg q, if_neg q]; rfl
theorem gsR_lin (a : Rat) (u v : Nat → Rat) : ∀ m, gsR f c k (fun t => a * u t + v t) m = a * gsR f c k u m + gsR f c k v m
  | 0 => by show (0 : Rat) = a * 0 + 0; grind
  | m + 1 => by
    show gsR f c k _ m + _ = a * (gsR f c k u m + _) + (gsR f c k v m + _)
    rw [gsR_lin a u v m]
    by_cases q : wsel f c k m
    · rw [if_pos q, if_pos q, if_pos q]; grind
    · rw [if_neg q, if_neg q, if_neg q]; grind
theorem gsR_congr {u v : Nat → Rat} : ∀ m, (∀ i, i < m → wsel f c k i → u (wtg f k i) = v (wtg f k i)) → gsR f c k u m = gsR f c k v m
  | 0, _ => rfl
  | m + 1, h => by
    show gsR f c k u m + _ = gsR f c k v m + _
    rw [gsR_congr m (fun i hi => h i (by omega))]
    by_cases q : wsel f c k m
    · rw [if_pos q, if_pos q, h m (by omega) q]
    · rw [if_neg q, if_neg q]
theorem gsR_le {u v : Nat → Rat} : ∀ m, (∀ i, i < m → 0 ≤ wwt f k i) → (∀ i, i < m → wsel f c k i → u (wtg f k i) ≤ v (wtg f k i)) → gsR f c k u m ≤ gsR f c k v m
  | 0, _, _ => Rat.le_refl
  | m + 1, hw, h => by
    show gsR f c k u m + _ ≤ gsR f c k v m + _
    have ih := gsR_le m (fun i hi => hw i (by omega)) (fun i hi => h i (by omega))
    by_cases q : wsel f c k m
    · rw [if_pos q, if_pos q]
      have w0 : (0 : Rat) ≤ ((wwt f k m : Int) : Rat) := by exact_mod_cast hw m (by omega)
      have := Rat.mul_le_mul_of_nonneg_left (c := ((wwt f k m : Int) : Rat)) (h m (by omega) q) w0
      grind
    · rw [if_neg q, if_neg q]; grind
theorem gsR_zero : ∀ m, gsR f c k (fun _ => 0) m = 0
  | 0 => rfl
  | m + 1 => by
    show gsR f c k _ m + _ = 0
    rw [gsR_zero m]
    by_cases q : wsel f c k m
    · rw [if_pos q]; grind
    · rw [if_neg q]; grind
/-- one way's value lies lower: so much lower lies the sum -/
theorem gsR_gap {u : Nat → Rat} {e : Rat} {i0 : Nat} (he : 0 ≤ e) (hi : wsel f c k i0) : ∀ m, i0 < m → (∀ i, i < m → 1 ≤ wwt f k i) → (∀ i, i < m → wsel f c k i → u (wtg f k i) ≤ 1) → u (wtg f k i0) ≤ 1 - e → gsR f c k u m ≤ gsR f c k (fun _ => 1) m - e
  | 0, h, _, _, _ => absurd h (by omega)
  | m + 1, h, hw, hu, h0 => by
    show gsR f c k u m + _ ≤ gsR f c k _ m + _ - e
    have w1 : (1 : Rat) ≤ ((wwt f k m : Int) : Rat) := by exact_mod_cast hw m (by omega)
    by_cases q0 : i0 = m
    · subst q0
      rw [if_pos hi, if_pos hi]
      have ih := gsR_le (u := u) (v := fun _ => 1) (c := c) i0 (fun i hi => by have := hw i (by omega); omega) (fun i hi => hu i (by omega))
      have a1 := Rat.mul_le_mul_of_nonneg_left (c := ((wwt f k i0 : Int) : Rat)) h0 (by grind)
      have a2 := Rat.mul_le_mul_of_nonneg_right (c := e) w1 he
      grind
    · have ih := gsR_gap he hi m (by omega) (fun i hi => hw i (by omega)) (fun i hi => hu i (by omega)) h0
      by_cases q : wsel f c k m
      · rw [if_pos q, if_pos q]
        have a1 := Rat.mul_le_mul_of_nonneg_left (c := ((wwt f k m : Int) : Rat)) (hu m (by omega) q) (by grind)
        grind
      · rw [if_neg q, if_neg q]; grind
theorem gsm_one_chance (h : (f (1 + k)).toInt = 3) : ∀ m, gsm f c k (fun _ => 1) m = gw f k m
  | 0 => rfl
  | m + 1 => by
    show gsm f c k _ m + _ = gw f k m + _
    rw [gsm_one_chance h m, if_pos (Or.inl h)]
    unfold wwt
    rw [if_pos h]
    show gw f k m + (f (73 + 3 * k + m)).toInt * 1 = gw f k m + (f (73 + 3 * k + m)).toInt
    omega
theorem gsm_one_player (h : ¬ (f (1 + k)).toInt = 3) : ∀ m : Nat, gsm f c k (fun _ => 1) m = if 0 ≤ (c k).toInt ∧ (c k).toInt < (m : Int) then 1 else 0
  | 0 => by rw [if_neg (by omega)]; rfl
  | m + 1 => by
    show gsm f c k _ m + _ = _
    rw [gsm_one_player h m]
    by_cases q : wsel f c k m
    · rw [if_pos q]
      have q2 : (c k).toInt = (m : Int) := by rcases q with q | q; exact absurd q h; exact q
      unfold wwt
      rw [if_neg h, if_neg (by omega), if_pos (by omega)]
      rfl
    · rw [if_neg q]
      have q2 : ¬ (c k).toInt = (m : Int) := fun e => q (Or.inr e)
      by_cases q3 : 0 ≤ (c k).toInt ∧ (c k).toInt < (m : Int)
      · rw [if_pos q3, if_pos (by omega)]; omega
      · rw [if_neg q3, if_neg (by omega)]; omega
theorem gs_w1 (h : GS f) (hk : k < 12) {i : Nat} (hi : i < wys f k) : 1 ≤ wwt f k i ∧ wwt f k i ≤ 3 ∧ (wtg f k i : Int) < (f 0).toInt ∧ (wtg f k i : Int) = (f (37 + 3 * k + i)).toInt := by
  have h3 := (h.r.2.1 k hk).2.2.1
  have hi2 : (i : Int) < (f (25 + k)).toInt := by unfold wys at hi; omega
  have h4 := h.1.2.2.2.1 k i hk hi2
  have h5 := (h.r.2.2 (3 * k + i) (by omega))
  rw [← Nat.add_assoc, ← Nat.add_assoc] at h5
  unfold wwt wtg
  refine ⟨?_, ?_, by omega, by omega⟩
  · split <;> omega
  · split <;> omega
theorem gs_all (h : GS f) (hk : k < 12) : gsm f c k (fun _ => 1) (wys f k) ≤ (if (f (1 + k)).toInt = 3 then 4 else 1) ∧ 0 ≤ gsm f c k (fun _ => 1) (wys f k) := by
  by_cases q : (f (1 + k)).toInt = 3
  · rw [gsm_one_chance q, if_pos q]
    have h1 := h.1.2.2.2.2.1 k hk q
    refine ⟨h1, gw_nonneg _ (fun i hi => ?_)⟩
    have h3 := (h.r.2.1 k hk).2.2.1
    have h5 := (h.r.2.2 (3 * k + i) (by unfold wys at hi; omega)).2
    rw [← Nat.add_assoc] at h5
    exact h5.1
  · rw [gsm_one_player q, if_neg q]
    split <;> omega
end GM
/-- an end is come to in at most m moves -/
def RK (f c : Nat → Int32) : Nat → Nat → Prop
  | 0, k => (k : Int) < (f 0).toInt ∧ (f (1 + k)).toInt = 0
  | m + 1, k => RK f c m k ∨ ((k : Int) < (f 0).toInt ∧ ¬ (f (1 + k)).toInt = 0 ∧ ∃ j, ON f c k j ∧ RK f c m j)
def RC (f c : Nat → Int32) (k : Nat) : Prop := ∃ m, RK f c m k
theorem RC_closed (f c : Nat → Int32) : CL f c (RC f c) := fun k j h1 h2 h3 ⟨m, h4⟩ => ⟨m + 1, Or.inr ⟨h1, h2, j, h3, h4⟩⟩
theorem RC_of {f c : Nat → Int32} {x y : Int32} (hx : ∀ j : Nat, bt x j ↔ (j < (f 0).toInt.toNat ∧ (f (1 + j)).toInt = 0)) (h : LF f c x y ∧ CL f c (bt y)) (k : Nat) : bt y k ↔ RC f c k := by
  constructor
  · exact h.1.2 (RC f c) (fun j hj => ⟨0, by have := (hx j).mp hj; exact ⟨by omega, this.2⟩⟩) (RC_closed f c) k
  · rintro ⟨m, hm⟩
    induction m generalizing k with
    | zero => exact h.1.1 k ((hx k).mpr ⟨by have := hm.1; omega, hm.2⟩)
    | succ m ih =>
      rcases hm with hm | ⟨h1, h2, j, h3, h4⟩
      · exact ih k hm
      · exact h.2 k j h1 h2 h3 (ih j h4)
/-- how far an end is -/
theorem RC_rank (f c : Nat → Int32) : ∃ d : Nat → Nat, ∀ k, RC f c k → ¬ (f (1 + k)).toInt = 0 → 1 ≤ d k ∧ ∃ j, ON f c k j ∧ RC f c j ∧ d j + 1 ≤ d k := by
  have h : ∀ k, ∃ d : Nat, RC f c k → RK f c d k ∧ ∀ m, RK f c m k → d ≤ m := by
    intro k
    by_cases q : RC f c k
    · obtain ⟨m, hm⟩ := q
      induction m using Nat.strongRecOn with
      | _ m ih =>
        by_cases q2 : ∃ m2, m2 < m ∧ RK f c m2 k
        · obtain ⟨m2, h1, h2⟩ := q2
          exact ih m2 h1 h2
        · exact ⟨m, fun _ => ⟨hm, fun m3 h3 => Nat.le_of_not_lt fun h4 => q2 ⟨m3, h4, h3⟩⟩⟩
    · exact ⟨0, fun h => absurd h q⟩
  refine ⟨fun k => (h k).choose, fun k hk he => ?_⟩
  obtain ⟨h1, h2⟩ := (h k).choose_spec hk
  obtain ⟨m, hm⟩ : ∃ m, m = (h k).choose := ⟨_, rfl⟩
  rw [← hm] at h1 h2
  show 1 ≤ (h k).choose ∧ ∃ j, ON f c k j ∧ RC f c j ∧ (h j).choose + 1 ≤ (h k).choose
  rw [← hm]
  cases m with
  | zero => exact absurd h1.2 he
  | succ m =>
    rcases h1 with h1 | ⟨_, _, j, h3, h4⟩
    · have := h2 m h1; omega
    · have hj : RC f c j := ⟨m, h4⟩
      have := ((h j).choose_spec hj).2 m h4
      exact ⟨by omega, j, h3, hj, by omega⟩
/-! the numbers of the rows, and the rows' good nature -/
def rwS (f c : Nat → Int32) (k : Nat) : Prop := ¬ (f (1 + k)).toInt = 0 ∧ RC f c k
def DK (f : Nat → Int32) (k : Nat) : Int := if (f (1 + k)).toInt = 3 then 20 else 5
def PD (f : Nat → Int32) : Nat → Int
  | 0 => 1
  | k + 1 => PD f k * (if (f (1 + k)).toInt = 0 then 1 else DK f k)
def pE (E : Nat → Int) : Nat → Int
  | 0 => 1
  | k + 1 => pE E k * E k
def RWI (f c w : Nat → Int32) (m N : Nat) : Prop := (∀ k, k < m → (0 ≤ (w k).toInt ↔ rwS f c k) ∧ (w k).toInt < (N : Int)) ∧ (∀ i, i < N → ∃ k, k < m ∧ (w k).toInt = (i : Int)) ∧ (∀ k j, k < m → j < m → (w k).toInt = (w j).toInt → 0 ≤ (w k).toInt → k = j) ∧ N ≤ m ∧ ∀ E : Nat → Int, (∀ k, k < m → 0 ≤ (w k).toInt → 0 ≤ E (w k).toInt.toNat ∧ E (w k).toInt.toNat ≤ DK f k) → pE E N ≤ PD f m
theorem DK_pos (f : Nat → Int32) (k : Nat) : 5 ≤ DK f k ∧ DK f k ≤ 20 := by unfold DK; split <;> omega
theorem PD_pos (f : Nat → Int32) : ∀ m, 1 ≤ PD f m
  | 0 => by show (1 : Int) ≤ 1; omega
  | m + 1 => by
    have h1 := PD_pos f m
    have h2 := DK_pos f m
    show 1 ≤ PD f m * _
    split
    · omega
    · have := Int.mul_le_mul h1 (show (1 : Int) ≤ DK f m by omega) (by omega) (by omega)
      omega
theorem pE_nonneg {E : Nat → Int} : ∀ N, (∀ i, i < N → 0 ≤ E i) → 0 ≤ pE E N
  | 0, _ => by show (0 : Int) ≤ 1; omega
  | N + 1, h => Int.mul_nonneg (pE_nonneg N (fun i hi => h i (by omega))) (h N (by omega))
theorem RWI_zero (f c w : Nat → Int32) : RWI f c w 0 0 := ⟨fun k h => absurd h (by omega), fun i h => absurd h (by omega), fun k j h => absurd h (by omega), by omega, fun E _ => by show (1 : Int) ≤ 1; omega⟩
theorem RWI_row {f c w v : Nat → Int32} {m m2 N N2 : Nat} (h : RWI f c w m N) (hv : ∀ k, k < m → v k = w k) (hn : (v m).toInt = (N : Int)) (hS : rwS f c m) (hm : m2 = m + 1) (hN : N2 = N + 1) : RWI f c v m2 N2 := by
  subst hm hN
  obtain ⟨h1, h2, h3, h4, h5⟩ := h
  refine ⟨fun k hk => ?_, fun i hi => ?_, fun k j hk hj e e0 => ?_, by omega, fun E hE => ?_⟩
  · by_cases q : k = m
    · subst q; exact ⟨⟨fun _ => hS, fun _ => by omega⟩, by omega⟩
    · rw [hv k (by omega)]; have := h1 k (by omega); exact ⟨this.1, by omega⟩
  · by_cases q : i = N
    · subst q; exact ⟨m, by omega, hn⟩
    · obtain ⟨k, hk, e⟩ := h2 i (by omega)
      exact ⟨k, by omega, by rw [hv k hk]; exact e⟩
  · by_cases q : k = m
    · by_cases q2 : j = m
      · omega
      · subst q
        rw [hv j (by omega)] at e
        have := (h1 j (by omega)).2
        omega
    · by_cases q2 : j = m
      · subst q2
        rw [hv k (by omega)] at e
        have := (h1 k (by omega)).2
        omega
      · rw [hv k (by omega)] at e e0
        rw [hv j (by omega)] at e
        exact h3 k j (by omega) (by omega) e e0
  · show pE E N * E N ≤ PD f m * _
    rw [if_neg hS.1]
    have a1 := h5 E (fun k hk e => by have := hE k (by omega) (by rw [hv k hk]; exact e); rw [hv k hk] at this; exact this)
    have a2 := hE m (by omega) (by omega)
    rw [hn, Int.toNat_natCast] at a2
    have a3 : 0 ≤ pE E N := pE_nonneg N (fun i hi => by
      obtain ⟨k, hk, e⟩ := h2 i hi
      have := hE k (by omega) (by rw [hv k hk]; omega)
      rw [hv k hk, e, Int.toNat_natCast] at this
      exact this.1)
    have a4 := PD_pos f m
    exact Int.mul_le_mul a1 a2.2 a2.1 (by omega)
theorem RWI_not {f c w v : Nat → Int32} {m m2 N : Nat} (h : RWI f c w m N) (hv : ∀ k, k < m → v k = w k) (hn : (v m).toInt = -1) (hS : ¬ rwS f c m) (hm : m2 = m + 1) : RWI f c v m2 N := by
  subst hm
  obtain ⟨h1, h2, h3, h4, h5⟩ := h
  refine ⟨fun k hk => ?_, fun i hi => ?_, fun k j hk hj e e0 => ?_, by omega, fun E hE => ?_⟩
  · by_cases q : k = m
    · subst q; exact ⟨⟨fun _ => by omega, fun z => absurd z hS⟩, by omega⟩
    · rw [hv k (by omega)]; exact h1 k (by omega)
  · obtain ⟨k, hk, e⟩ := h2 i (by omega)
    exact ⟨k, by omega, by rw [hv k hk]; exact e⟩
  · by_cases q : k = m
    · subst q; omega
    · by_cases q2 : j = m
      · subst q2; omega
      · rw [hv k (by omega)] at e e0
        rw [hv j (by omega)] at e
        exact h3 k j (by omega) (by omega) e e0
  · have a1 := h5 E (fun k hk e => by have := hE k (by omega) (by rw [hv k hk]; exact e); rw [hv k hk] at this; exact this)
    have a4 := PD_pos f m
    have a5 := DK_pos f m
    show pE E N ≤ PD f m * _
    split
    · omega
    · have : PD f m * 1 ≤ PD f m * DK f m := Int.mul_le_mul_of_nonneg_left (by omega) (by omega)
      omega
/-- chance's nodes and players' nodes, counted -/
theorem PD_count (f : Nat → Int32) : ∀ m : Nat, ∃ a b : Nat, (a : Int) = gc f 3 m ∧ (a : Int) + b = (m : Int) - gc f 0 m ∧ PD f m = 20 ^ a * 5 ^ b
  | 0 => ⟨0, 0, rfl, rfl, rfl⟩
  | m + 1 => by
    obtain ⟨a, b, h1, h2, h3⟩ := PD_count f m
    have e3 : gc f 3 (m + 1) = gc f 3 m + (if (f (1 + m)).toInt = 3 then 1 else 0) := rfl
    have e0 : gc f 0 (m + 1) = gc f 0 m + (if (f (1 + m)).toInt = 0 then 1 else 0) := rfl
    have eP : PD f (m + 1) = PD f m * (if (f (1 + m)).toInt = 0 then 1 else DK f m) := rfl
    rw [e3, e0, eP, h3]
    by_cases q0 : (f (1 + m)).toInt = 0
    · rw [if_pos q0, if_pos q0, if_neg (by omega)]
      exact ⟨a, b, by omega, by omega, by omega⟩
    · rw [if_neg q0, if_neg q0]
      unfold DK
      by_cases q3 : (f (1 + m)).toInt = 3
      · rw [if_pos q3, if_pos q3]
        exact ⟨a + 1, b, by omega, by omega, by rw [Int.pow_succ]; grind⟩
      · rw [if_neg q3, if_neg q3]
        exact ⟨a, b + 1, by omega, by omega, by rw [Int.pow_succ]; grind⟩
theorem PD_le {f : Nat → Int32} (h : GS f) : PD f (f 0).toInt.toNat ≤ 400000000 := by
  obtain ⟨a, b, h1, h2, h3⟩ := PD_count f (f 0).toInt.toNat
  have k1 := h.1.2.2.2.2.2.2.2.1
  have k2 := h.1.2.2.2.2.2.2.2.2
  have k0 := h.r.1
  rw [h3]
  have ha : a ≤ 5 := by omega
  have hb : a + b ≤ 8 := by omega
  rcases (show a = 0 ∨ a = 1 ∨ a = 2 ∨ a = 3 ∨ a = 4 ∨ a = 5 by omega) with rfl | rfl | rfl | rfl | rfl | rfl <;> rcases (show b = 0 ∨ b = 1 ∨ b = 2 ∨ b = 3 ∨ b = 4 ∨ b = 5 ∨ b = 6 ∨ b = 7 ∨ b = 8 by omega) with rfl | rfl | rfl | rfl | rfl | rfl | rfl | rfl | rfl <;> first | omega | decide
/-- what stands in the row of node k -/
def arow (f c w : Nat → Int32) (N : Nat) (a b e : Int) (u : Nat → Int) (k j : Nat) : Int :=
  if j = N then b * gsm f c k (fun t => if (w t).toInt < 0 then u t else 0) (wys f k) + e * gsm f c k (fun _ => 1) (wys f k)
  else (if (w k).toInt = (j : Int) then a * gsm f c k (fun _ => 1) (wys f k) else 0) - b * gsm f c k (fun t => if (w t).toInt = (j : Int) then 1 else 0) (wys f k)
def MAT (f c w : Nat → Int32) (N : Nat) (a b e : Int) (u : Nat → Int) (m : Nat) (A : Nat → Nat → Int) : Prop := ∀ k, k < m → 0 ≤ (w k).toInt → ∀ j, j ≤ N → A (w k).toInt.toNat j = arow f c w N a b e u k j
theorem pz_m_delta (y : Nat → Rat) (c : Rat) (i : Nat) : ∀ N, pz_m N (fun j => (if i = j then c else 0) * y j) = if i < N then c * y i else 0
  | 0 => by rw [if_neg (by omega)]; rfl
  | N + 1 => by
    show pz_m N _ + _ = _
    rw [pz_m_delta y c i N]
    dsimp only
    by_cases q : i = N
    · subst q; rw [if_neg (by omega), if_pos rfl, if_pos (by omega)]; grind
    · rw [if_neg q]
      by_cases q2 : i < N
      · rw [if_pos q2, if_pos (by omega)]; grind
      · rw [if_neg q2, if_neg (by omega)]; grind
theorem pz_m_pick (y : Nat → Rat) {r : Int} {N : Nat} (hr : r < (N : Int)) : pz_m N (fun j => (((if r = (j : Int) then 1 else 0 : Int) : Int) : Rat) * y j) = if 0 ≤ r then y r.toNat else 0 := by
  by_cases q : 0 ≤ r
  · rw [if_pos q, pz_m_congr N (v := fun j => (if r.toNat = j then (1 : Rat) else 0) * y j) (fun j _ => ?_), pz_m_delta, if_pos (by omega)]
    · grind
    · by_cases q2 : r = (j : Int)
      · rw [if_pos q2, if_pos (by omega)]; rfl
      · rw [if_neg q2, if_neg (by omega)]; rfl
  · rw [if_neg q]
    exact pz_m_zero (fun j _ => by rw [if_neg (by omega)]; show (0 : Rat) * y j = 0; grind)
section RS
variable {f c w : Nat → Int32} {k N : Nat}
theorem gsR_pick (y : Nat → Rat) : ∀ m, (∀ i, i < m → (w (wtg f k i)).toInt < (N : Int)) → pz_m N (fun j => gsR f c k (fun t => (((if (w t).toInt = (j : Int) then 1 else 0 : Int) : Int) : Rat)) m * y j) = gsR f c k (fun t => if 0 ≤ (w t).toInt then y (w t).toInt.toNat else 0) m
  | 0, _ => pz_m_zero (fun j _ => by show (0 : Rat) * y j = 0; grind)
  | m + 1, h => by
    have ih := gsR_pick y m (fun i hi => h i (by omega))
    show pz_m N (fun j => (gsR f c k _ m + _) * y j) = gsR f c k _ m + _
    rw [← ih]
    dsimp only
    by_cases q : wsel f c k m
    · rw [if_pos q, ← pz_m_pick y (h m (by omega)), pz_m_congr N (v := fun j => ((wwt f k m : Int) : Rat) * ((((if (w (wtg f k m)).toInt = (j : Int) then 1 else 0 : Int) : Int) : Rat) * y j) + gsR f c k (fun t => (((if (w t).toInt = (j : Int) then 1 else 0 : Int) : Int) : Rat)) m * y j) (fun j _ => by rw [if_pos q]; grind), pz_m_lin]
      grind
    · rw [if_neg q, pz_m_congr N (v := fun j => gsR f c k (fun t => (((if (w t).toInt = (j : Int) then 1 else 0 : Int) : Int) : Rat)) m * y j) (fun j _ => by rw [if_neg q]; grind)]
      grind
end RS
def p5 : Nat → Rat
  | 0 => 1
  | d + 1 => p5 d / 5
theorem p5_pos : ∀ d, 0 < p5 d
  | 0 => by show (0 : Rat) < 1; decide
  | d + 1 => pm_div_pos (p5_pos d) (by decide)
theorem p5_le : ∀ {a b : Nat}, a ≤ b → p5 b ≤ p5 a := by
  intro a b h
  induction b with
  | zero => rw [show a = 0 by omega]; exact Rat.le_refl
  | succ b ih =>
    by_cases e : a = b + 1
    · rw [e]; exact Rat.le_refl
    · have h1 := ih (by omega)
      have h2 := p5_pos b
      have h3 : p5 (b + 1) = p5 b / 5 := rfl
      grind
