theorem qw_121 : Cond.methodLink RX12 197 yX12_to ∈ wsL_law := tseg_6 (by decide +kernel) (List.mem_of_getElem? (i := 106) rfl)
theorem qw_122 : Cond.instanceMethod yX12_to ∈ wsL_law := tseg_6 (by decide +kernel) (List.mem_of_getElem? (i := 108) rfl)
theorem qw_123 : Cond.selects RX12 yX12_to yX12_to ∈ wsL_law := List.mem_filter.mpr ⟨List.mem_append_left _ (List.mem_of_getElem? (i := 66) rfl), by decide +kernel⟩
theorem qw_124 : Cond.code yX12_to cX12_to 3 (some .int) ∈ wsL_law := tseg_6 (by decide +kernel) (List.mem_of_getElem? (i := 109) rfl)
theorem qw_125 : Cond.fieldLink RX12 40 "ChanceRingsModel" "choice" "[I" ∈ wsL_law := tseg_5 (by decide +kernel) (List.mem_of_getElem? (i := 147) rfl)
theorem qw_126 : Cond.methodLink RX12 208 yX12_onBits ∈ wsL_law := tseg_6 (by decide +kernel) (List.mem_of_getElem? (i := 149) rfl)
theorem qw_127 : Cond.instanceMethod yX12_onBits ∈ wsL_law := tseg_6 (by decide +kernel) (List.mem_of_getElem? (i := 151) rfl)
theorem qw_128 : Cond.selects RX12 yX12_onBits yX12_onBits ∈ wsL_law := List.mem_filter.mpr ⟨List.mem_append_left _ (List.mem_of_getElem? (i := 75) rfl), by decide +kernel⟩
theorem qw_129 : Cond.code yX12_onBits cX12_onBits 4 (some .int) ∈ wsL_law := tseg_6 (by decide +kernel) (List.mem_of_getElem? (i := 152) rfl)
theorem dX12_bitOf_0 : decode cX12_bitOf 0 = .ok (.iload_n 0, 1) := by decide +kernel
theorem dX12_bitOf_1 : decode cX12_bitOf 1 = .ok (.iload_n 1, 1) := by decide +kernel
theorem dX12_bitOf_2 : decode cX12_bitOf 2 = .ok (.ishr, 1) := by decide +kernel
theorem dX12_bitOf_3 : decode cX12_bitOf 3 = .ok (.iconst 1, 1) := by decide +kernel
theorem dX12_bitOf_4 : decode cX12_bitOf 4 = .ok (.iand, 1) := by decide +kernel
theorem dX12_bitOf_5 : decode cX12_bitOf 5 = .ok (.iconst 1, 1) := by decide +kernel
theorem dX12_bitOf_6 : decode cX12_bitOf 6 = .ok (.if_icmp .ne 7, 3) := by decide +kernel
theorem dX12_bitOf_9 : decode cX12_bitOf 9 = .ok (.iconst 1, 1) := by decide +kernel
theorem dX12_bitOf_10 : decode cX12_bitOf 10 = .ok (.goto 4, 3) := by decide +kernel
theorem dX12_bitOf_13 : decode cX12_bitOf 13 = .ok (.iconst 0, 1) := by decide +kernel
theorem dX12_bitOf_14 : decode cX12_bitOf 14 = .ok (.ireturn, 1) := by decide +kernel
theorem dX12_comes_0 : decode cX12_comes 0 = .ok (.iload_n 1, 1) := by decide +kernel
theorem dX12_comes_1 : decode cX12_comes 1 = .ok (.istore_n 2, 1) := by decide +kernel
theorem dX12_comes_2 : decode cX12_comes 2 = .ok (.iconst 0, 1) := by decide +kernel
theorem dX12_comes_3 : decode cX12_comes 3 = .ok (.istore_n 3, 1) := by decide +kernel
theorem dX12_comes_4 : decode cX12_comes 4 = .ok (.iload_n 3, 1) := by decide +kernel
theorem dX12_comes_5 : decode cX12_comes 5 = .ok (.iload_n 2, 1) := by decide +kernel
theorem dX12_comes_6 : decode cX12_comes 6 = .ok (.if_icmp .eq 56, 3) := by decide +kernel
theorem dX12_comes_9 : decode cX12_comes 9 = .ok (.iload_n 2, 1) := by decide +kernel
theorem dX12_comes_10 : decode cX12_comes 10 = .ok (.istore_n 3, 1) := by decide +kernel
theorem dX12_comes_11 : decode cX12_comes 11 = .ok (.iconst 0, 1) := by decide +kernel
theorem dX12_comes_12 : decode cX12_comes 12 = .ok (.istore 4, 2) := by decide +kernel
theorem dX12_comes_14 : decode cX12_comes 14 = .ok (.iload 4, 2) := by decide +kernel
theorem dX12_comes_16 : decode cX12_comes 16 = .ok (.aload_n 0, 1) := by decide +kernel
theorem dX12_comes_17 : decode cX12_comes 17 = .ok (.getfield 13, 3) := by decide +kernel
theorem dX12_comes_20 : decode cX12_comes 20 = .ok (.iconst 0, 1) := by decide +kernel
theorem dX12_comes_21 : decode cX12_comes 21 = .ok (.iaload, 1) := by decide +kernel
theorem dX12_comes_22 : decode cX12_comes 22 = .ok (.if_icmp .ge 37, 3) := by decide +kernel
theorem dX12_comes_25 : decode cX12_comes 25 = .ok (.aload_n 0, 1) := by decide +kernel
theorem dX12_comes_26 : decode cX12_comes 26 = .ok (.iload 4, 2) := by decide +kernel
theorem dX12_comes_28 : decode cX12_comes 28 = .ok (.iconst 0, 1) := by decide +kernel
theorem dX12_comes_29 : decode cX12_comes 29 = .ok (.invokevirtual 187, 3) := by decide +kernel
theorem dX12_comes_32 : decode cX12_comes 32 = .ok (.ifCond .ne 21, 3) := by decide +kernel
theorem dX12_comes_35 : decode cX12_comes 35 = .ok (.aload_n 0, 1) := by decide +kernel
theorem dX12_comes_36 : decode cX12_comes 36 = .ok (.iload 4, 2) := by decide +kernel
theorem dX12_comes_38 : decode cX12_comes 38 = .ok (.invokevirtual 208, 3) := by decide +kernel
theorem dX12_comes_41 : decode cX12_comes 41 = .ok (.iload_n 2, 1) := by decide +kernel
theorem dX12_comes_42 : decode cX12_comes 42 = .ok (.iand, 1) := by decide +kernel
theorem dX12_comes_43 : decode cX12_comes 43 = .ok (.ifCond .eq 10, 3) := by decide +kernel
theorem dX12_comes_46 : decode cX12_comes 46 = .ok (.iload_n 2, 1) := by decide +kernel
theorem dX12_comes_47 : decode cX12_comes 47 = .ok (.iconst 1, 1) := by decide +kernel
theorem dX12_comes_48 : decode cX12_comes 48 = .ok (.iload 4, 2) := by decide +kernel
theorem dX12_comes_50 : decode cX12_comes 50 = .ok (.ishl, 1) := by decide +kernel
theorem dX12_comes_51 : decode cX12_comes 51 = .ok (.ior, 1) := by decide +kernel
theorem dX12_comes_52 : decode cX12_comes 52 = .ok (.istore_n 2, 1) := by decide +kernel
theorem dX12_comes_53 : decode cX12_comes 53 = .ok (.iinc 4 1, 3) := by decide +kernel
theorem dX12_comes_56 : decode cX12_comes 56 = .ok (.goto (-42), 3) := by decide +kernel
theorem dX12_comes_59 : decode cX12_comes 59 = .ok (.goto (-55), 3) := by decide +kernel
theorem dX12_comes_62 : decode cX12_comes 62 = .ok (.iload_n 2, 1) := by decide +kernel
theorem dX12_comes_63 : decode cX12_comes 63 = .ok (.ireturn, 1) := by decide +kernel
theorem dX12_ends_0 : decode cX12_ends 0 = .ok (.iconst 0, 1) := by decide +kernel
theorem dX12_ends_1 : decode cX12_ends 1 = .ok (.istore_n 1, 1) := by decide +kernel
theorem dX12_ends_2 : decode cX12_ends 2 = .ok (.iconst 0, 1) := by decide +kernel
theorem dX12_ends_3 : decode cX12_ends 3 = .ok (.istore_n 2, 1) := by decide +kernel
theorem dX12_ends_4 : decode cX12_ends 4 = .ok (.iload_n 2, 1) := by decide +kernel
theorem dX12_ends_5 : decode cX12_ends 5 = .ok (.aload_n 0, 1) := by decide +kernel
theorem dX12_ends_6 : decode cX12_ends 6 = .ok (.getfield 13, 3) := by decide +kernel
theorem dX12_ends_9 : decode cX12_ends 9 = .ok (.iconst 0, 1) := by decide +kernel
theorem dX12_ends_10 : decode cX12_ends 10 = .ok (.iaload, 1) := by decide +kernel
theorem dX12_ends_11 : decode cX12_ends 11 = .ok (.if_icmp .ge 28, 3) := by decide +kernel
theorem dX12_ends_14 : decode cX12_ends 14 = .ok (.iload_n 1, 1) := by decide +kernel
theorem dX12_ends_15 : decode cX12_ends 15 = .ok (.aload_n 0, 1) := by decide +kernel
theorem dX12_ends_16 : decode cX12_ends 16 = .ok (.iload_n 2, 1) := by decide +kernel
theorem dX12_ends_17 : decode cX12_ends 17 = .ok (.iconst 0, 1) := by decide +kernel
theorem dX12_ends_18 : decode cX12_ends 18 = .ok (.invokevirtual 187, 3) := by decide +kernel
theorem dX12_ends_21 : decode cX12_ends 21 = .ok (.ifCond .eq 9, 3) := by decide +kernel
theorem dX12_ends_24 : decode cX12_ends 24 = .ok (.iconst 1, 1) := by decide +kernel
theorem dX12_ends_25 : decode cX12_ends 25 = .ok (.iload_n 2, 1) := by decide +kernel
theorem dX12_ends_26 : decode cX12_ends 26 = .ok (.ishl, 1) := by decide +kernel
theorem dX12_ends_27 : decode cX12_ends 27 = .ok (.goto 4, 3) := by decide +kernel
theorem dX12_ends_30 : decode cX12_ends 30 = .ok (.iconst 0, 1) := by decide +kernel
theorem dX12_ends_31 : decode cX12_ends 31 = .ok (.ior, 1) := by decide +kernel
theorem dX12_ends_32 : decode cX12_ends 32 = .ok (.istore_n 1, 1) := by decide +kernel
theorem dX12_ends_33 : decode cX12_ends 33 = .ok (.iinc 2 1, 3) := by decide +kernel
theorem dX12_ends_36 : decode cX12_ends 36 = .ok (.goto (-32), 3) := by decide +kernel
theorem dX12_ends_39 : decode cX12_ends 39 = .ok (.iload_n 1, 1) := by decide +kernel
theorem dX12_ends_40 : decode cX12_ends 40 = .ok (.ireturn, 1) := by decide +kernel
theorem dX12_isPart_0 : decode cX12_isPart 0 = .ok (.iload_n 0, 1) := by decide +kernel
theorem dX12_isPart_1 : decode cX12_isPart 1 = .ok (.ifCond .eq 8, 3) := by decide +kernel
theorem dX12_isPart_4 : decode cX12_isPart 4 = .ok (.iload_n 0, 1) := by decide +kernel
theorem dX12_isPart_5 : decode cX12_isPart 5 = .ok (.iconst 1, 1) := by decide +kernel
theorem dX12_isPart_6 : decode cX12_isPart 6 = .ok (.if_icmp .ne 7, 3) := by decide +kernel
theorem dX12_isPart_9 : decode cX12_isPart 9 = .ok (.iconst 1, 1) := by decide +kernel
theorem dX12_isPart_10 : decode cX12_isPart 10 = .ok (.goto 4, 3) := by decide +kernel
theorem dX12_isPart_13 : decode cX12_isPart 13 = .ok (.iconst 0, 1) := by decide +kernel
theorem dX12_isPart_14 : decode cX12_isPart 14 = .ok (.ireturn, 1) := by decide +kernel
theorem dX12_onBits_0 : decode cX12_onBits 0 = .ok (.iconst 0, 1) := by decide +kernel
theorem dX12_onBits_1 : decode cX12_onBits 1 = .ok (.istore_n 2, 1) := by decide +kernel
theorem dX12_onBits_2 : decode cX12_onBits 2 = .ok (.iconst 0, 1) := by decide +kernel
theorem dX12_onBits_3 : decode cX12_onBits 3 = .ok (.istore_n 3, 1) := by decide +kernel
theorem dX12_onBits_4 : decode cX12_onBits 4 = .ok (.iload_n 3, 1) := by decide +kernel
theorem dX12_onBits_5 : decode cX12_onBits 5 = .ok (.aload_n 0, 1) := by decide +kernel
theorem dX12_onBits_6 : decode cX12_onBits 6 = .ok (.getfield 13, 3) := by decide +kernel
theorem dX12_onBits_9 : decode cX12_onBits 9 = .ok (.bipush 25, 2) := by decide +kernel
theorem dX12_onBits_11 : decode cX12_onBits 11 = .ok (.iload_n 1, 1) := by decide +kernel
theorem dX12_onBits_12 : decode cX12_onBits 12 = .ok (.iadd, 1) := by decide +kernel
theorem dX12_onBits_13 : decode cX12_onBits 13 = .ok (.iaload, 1) := by decide +kernel
theorem dX12_onBits_14 : decode cX12_onBits 14 = .ok (.if_icmp .ge 39, 3) := by decide +kernel
theorem dX12_onBits_17 : decode cX12_onBits 17 = .ok (.aload_n 0, 1) := by decide +kernel
theorem dX12_onBits_18 : decode cX12_onBits 18 = .ok (.iload_n 1, 1) := by decide +kernel
theorem dX12_onBits_19 : decode cX12_onBits 19 = .ok (.iconst 3, 1) := by decide +kernel
theorem dX12_onBits_20 : decode cX12_onBits 20 = .ok (.invokevirtual 187, 3) := by decide +kernel
theorem dX12_onBits_23 : decode cX12_onBits 23 = .ok (.ifCond .ne 13, 3) := by decide +kernel
theorem dX12_onBits_26 : decode cX12_onBits 26 = .ok (.aload_n 0, 1) := by decide +kernel
theorem dX12_onBits_27 : decode cX12_onBits 27 = .ok (.getfield 40, 3) := by decide +kernel
theorem dX12_onBits_30 : decode cX12_onBits 30 = .ok (.iload_n 1, 1) := by decide +kernel
theorem dX12_onBits_31 : decode cX12_onBits 31 = .ok (.iaload, 1) := by decide +kernel
theorem dX12_onBits_32 : decode cX12_onBits 32 = .ok (.iload_n 3, 1) := by decide +kernel
theorem dX12_onBits_33 : decode cX12_onBits 33 = .ok (.if_icmp .ne 14, 3) := by decide +kernel
theorem dX12_onBits_36 : decode cX12_onBits 36 = .ok (.iload_n 2, 1) := by decide +kernel
theorem dX12_onBits_37 : decode cX12_onBits 37 = .ok (.iconst 1, 1) := by decide +kernel
theorem dX12_onBits_38 : decode cX12_onBits 38 = .ok (.aload_n 0, 1) := by decide +kernel
theorem dX12_onBits_39 : decode cX12_onBits 39 = .ok (.iload_n 1, 1) := by decide +kernel
theorem dX12_onBits_40 : decode cX12_onBits 40 = .ok (.iload_n 3, 1) := by decide +kernel
theorem dX12_onBits_41 : decode cX12_onBits 41 = .ok (.invokevirtual 197, 3) := by decide +kernel
theorem dX12_onBits_44 : decode cX12_onBits 44 = .ok (.ishl, 1) := by decide +kernel
theorem dX12_onBits_45 : decode cX12_onBits 45 = .ok (.ior, 1) := by decide +kernel
theorem dX12_onBits_46 : decode cX12_onBits 46 = .ok (.istore_n 2, 1) := by decide +kernel
theorem dX12_onBits_47 : decode cX12_onBits 47 = .ok (.iinc 3 1, 3) := by decide +kernel
theorem dX12_onBits_50 : decode cX12_onBits 50 = .ok (.goto (-46), 3) := by decide +kernel
theorem dX12_onBits_53 : decode cX12_onBits 53 = .ok (.iload_n 2, 1) := by decide +kernel
theorem dX12_onBits_54 : decode cX12_onBits 54 = .ok (.ireturn, 1) := by decide +kernel
set_option maxHeartbeats 4000000 in
set_option maxRecDepth 100000 in
theorem c_X12_isPart (l : Launch) (D : va_G) (g : Nat → ClassId) (p0 : Int32) : Met l yX12_isPart (.code yX12_isPart cX12_isPart 1 (some .boolean) :: wsL_law) ({ frames := 0, cells := 0, slots := 0, locals := 0 }) (va_Pc [.int p0] (fun U => va_P D vwCl [] U.heap ∧ va_K D vwCl (TY g) U)) (vp_Si (fun r => (0 ≤ (r : Int32).toInt ∧ (r : Int32).toInt ≤ 1) ∧ (Hide (¬ (r : Int32).toInt = 0 → (p0 : Int32).toInt = 0 ∨ (p0 : Int32).toInt = 1)) ∧ (Hide ((r : Int32).toInt = 0 → ¬ (p0 : Int32).toInt = 0 ∧ ¬ (p0 : Int32).toInt = 1)))) 0 0 (fun _ => False) := by
  refine Met.ofW (cc := cX12_isPart) (maxL := 1) (ret := (some .boolean)) (by decide) rfl ?_
  intro p e s m args below meth c s₁ B hml hv
  obtain ⟨ha, hP, hK⟩ := hv
  have hx := B.exec
  have hb := B.bytes
  have hr := B.returns
  have hts0 := atoms_spec (ws := (.code yX12_isPart cX12_isPart 1 (some .boolean) :: wsL_law)) B.pre
  have hts : ∀ w ∈ wsL_law, w.before args s = true := fun w h => hts0 w (List.mem_cons_of_mem _ h)
  have hown : s.vm.findClass RX12 = some m.cls := findClass_of_methodNamed B.named
  have hlocks := B.notSynchronized
  have hP : va_P D vwCl [] s.heap := hP
  refine W.eq (g2 := entryFrame m ([.int p0] : List Value).toArray 1) (by rw [ha]) ?_
  have hl := lv_entry ([.int p0]) (n := 1) (Nat.le_of_ble_eq_true rfl)
  rw [lg_entry_eq]
  generalize (lg_sl ([.int p0]) ++ List.replicate (1 - (lg_sl ([.int p0])).length) Slot.unset).toArray = ls at hl ⊢
  have hl : lv_has ls 1 [(0, .int p0)] := hl
  refine lv_iload_n hx hb dX12_isPart_0 rfl (lv_at hl 0 rfl) ?_
  refine lv_if_eq (tgt := 9) hx hb dX12_isPart_1 (by decide) (fun c_7415 => ?_) (fun c_7415 => ?_)
  · skip
    have kk_0 := tk_0
    have c_7415_i : (p0 : Int32).toInt = (0 : Int32).toInt := congrArg Int32.toInt c_7415
    have h_7416 : 0 ≤ (p0 : Int32).toInt ∧ (p0 : Int32).toInt ≤ 0 := by rw [c_7415]; exact ⟨by decide, by decide⟩
    refine lv_iconst (v := 1) hx hb dX12_isPart_9 (by decide) ?_
    refine lv_goto (tgt := 14) hx hb dX12_isPart_10 (by decide) ?_
    exact W.zret (v := 1) hx hb hr (by decide) (fun t ht hW => ⟨1, rfl, ⟨(⟨by decide, by decide⟩ : 0 ≤ (1 : Int32).toInt ∧ (1 : Int32).toInt ≤ 1), (fun h9 => (by have z_0 := tk_0; have z_1 := tk_1; omega)), (fun h9 => (by have z_0 := tk_0; have z_1 := tk_1; omega))⟩, ht⟩) (fun _ h => nomatch h) dX12_isPart_14
  · skip
    have kk_0 := tk_0
    have c_7415_i : ¬ (p0 : Int32).toInt = (0 : Int32).toInt := (fun q => c_7415 (Int32.toInt_inj.mp q))
    refine lv_iload_n hx hb dX12_isPart_4 rfl (lv_at hl 0 rfl) ?_
    refine lv_iconst (v := 1) hx hb dX12_isPart_5 (by decide) ?_
    refine lv_icmp_ne (tgt := 13) hx hb dX12_isPart_6 (by decide) (fun c_7417 => ?_) (fun c_7417 => ?_)
    · skip
      have kk_1 := tk_1
      have c_7417_i : ¬ (p0 : Int32).toInt = (1 : Int32).toInt := (fun q => c_7417 (Int32.toInt_inj.mp q))
      refine lv_iconst (v := 0) hx hb dX12_isPart_13 (by decide) ?_
      exact W.zret (v := 0) hx hb hr (by decide) (fun t ht hW => ⟨0, rfl, ⟨(⟨by decide, by decide⟩ : 0 ≤ (0 : Int32).toInt ∧ (0 : Int32).toInt ≤ 1), (fun h9 => (by have z_0 := tk_0; have z_1 := tk_1; omega)), (fun h9 => (by have z_0 := tk_0; have z_1 := tk_1; omega))⟩, ht⟩) (fun _ h => nomatch h) dX12_isPart_14
    · skip
      have kk_1 := tk_1
      have c_7417_i : (p0 : Int32).toInt = (1 : Int32).toInt := congrArg Int32.toInt c_7417
      have h_7418 : 1 ≤ (p0 : Int32).toInt ∧ (p0 : Int32).toInt ≤ 1 := by rw [c_7417]; exact ⟨by decide, by decide⟩
      refine lv_iconst (v := 1) hx hb dX12_isPart_9 (by decide) ?_
      refine lv_goto (tgt := 14) hx hb dX12_isPart_10 (by decide) ?_
      exact W.zret (v := 1) hx hb hr (by decide) (fun t ht hW => ⟨1, rfl, ⟨(⟨by decide, by decide⟩ : 0 ≤ (1 : Int32).toInt ∧ (1 : Int32).toInt ≤ 1), (fun h9 => (by have z_0 := tk_0; have z_1 := tk_1; omega)), (fun h9 => (by have z_0 := tk_0; have z_1 := tk_1; omega))⟩, ht⟩) (fun _ h => nomatch h) dX12_isPart_14
set_option maxHeartbeats 4000000 in
set_option maxRecDepth 100000 in
theorem c_X12_bitOf (l : Launch) (D : va_G) (g : Nat → ClassId) (p0 : Int32) (p1 : Int32) : Met l yX12_bitOf (.code yX12_bitOf cX12_bitOf 2 (some .boolean) :: wsL_law) ({ frames := 0, cells := 0, slots := 0, locals := 0 }) (va_Pc [.int p0, .int p1] (fun U => va_P D vwCl [] U.heap ∧ va_K D vwCl (TY g) U)) (vp_Si (fun r => 0 ≤ (r : Int32).toInt ∧ (r : Int32).toInt ≤ 1)) 0 0 (fun _ => False) := by
  refine Met.ofW (cc := cX12_bitOf) (maxL := 2) (ret := (some .boolean)) (by decide) rfl ?_
  intro p e s m args below meth c s₁ B hml hv
  obtain ⟨ha, hP, hK⟩ := hv
  have hx := B.exec
  have hb := B.bytes
  have hr := B.returns
  have hts0 := atoms_spec (ws := (.code yX12_bitOf cX12_bitOf 2 (some .boolean) :: wsL_law)) B.pre
  have hts : ∀ w ∈ wsL_law, w.before args s = true := fun w h => hts0 w (List.mem_cons_of_mem _ h)
  have hown : s.vm.findClass RX12 = some m.cls := findClass_of_methodNamed B.named
  have hlocks := B.notSynchronized
  have hP : va_P D vwCl [] s.heap := hP
  refine W.eq (g2 := entryFrame m ([.int p0, .int p1] : List Value).toArray 2) (by rw [ha]) ?_
  have hl := lv_entry ([.int p0, .int p1]) (n := 2) (Nat.le_of_ble_eq_true rfl)
  rw [lg_entry_eq]
  generalize (lg_sl ([.int p0, .int p1]) ++ List.replicate (2 - (lg_sl ([.int p0, .int p1])).length) Slot.unset).toArray = ls at hl ⊢
  have hl : lv_has ls 2 [(0, .int p0), (1, .int p1)] := hl
  refine lv_iload_n hx hb dX12_bitOf_0 rfl (lv_at hl 0 rfl) ?_
  refine lv_iload_n hx hb dX12_bitOf_1 rfl (lv_at hl 1 rfl) ?_
  refine lv_ishr hx hb dX12_bitOf_2 ?_
  refine lv_topi (fun v_7419 v_7419_e => ?_)
  refine lv_iconst (v := 1) hx hb dX12_bitOf_3 (by decide) ?_
  refine lv_iand hx hb dX12_bitOf_4 ?_
  refine lv_topi (fun v_7420 v_7420_e => ?_)
  refine lv_iconst (v := 1) hx hb dX12_bitOf_5 (by decide) ?_
  refine lv_icmp_ne (tgt := 13) hx hb dX12_bitOf_6 (by decide) (fun c_7421 => ?_) (fun c_7421 => ?_)
  · skip
    have kk_1 := tk_1
    have c_7421_i : ¬ (v_7420 : Int32).toInt = (1 : Int32).toInt := (fun q => c_7421 (Int32.toInt_inj.mp q))
    refine lv_iconst (v := 0) hx hb dX12_bitOf_13 (by decide) ?_
    exact W.zret (v := 0) hx hb hr (by decide) (fun t ht hW => ⟨0, rfl, (⟨by decide, by decide⟩ : 0 ≤ (0 : Int32).toInt ∧ (0 : Int32).toInt ≤ 1), ht⟩) (fun _ h => nomatch h) dX12_bitOf_14
  · skip
    have kk_1 := tk_1
    have c_7421_i : (v_7420 : Int32).toInt = (1 : Int32).toInt := congrArg Int32.toInt c_7421
    have h_7422 : 1 ≤ (v_7420 : Int32).toInt ∧ (v_7420 : Int32).toInt ≤ 1 := by rw [c_7421]; exact ⟨by decide, by decide⟩
    refine lv_iconst (v := 1) hx hb dX12_bitOf_9 (by decide) ?_
    refine lv_goto (tgt := 14) hx hb dX12_bitOf_10 (by decide) ?_
    exact W.zret (v := 1) hx hb hr (by decide) (fun t ht hW => ⟨1, rfl, (⟨by decide, by decide⟩ : 0 ≤ (1 : Int32).toInt ∧ (1 : Int32).toInt ≤ 1), ht⟩) (fun _ h => nomatch h) dX12_bitOf_14
set_option maxHeartbeats 4000000 in
set_option maxRecDepth 100000 in
theorem c_X12_bitOf2 (l : Launch) (D : va_G) (g : Nat → ClassId) (p0 : Int32) (p1 : Int32) (h_p0 : 0 ≤ (p0 : Int32).toInt ∧ (p0 : Int32).toInt ≤ 4095) (h_p1 : 0 ≤ (p1 : Int32).toInt ∧ (p1 : Int32).toInt ≤ 11) : Met l yX12_bitOf (.code yX12_bitOf cX12_bitOf 2 (some .boolean) :: wsL_law) ({ frames := 0, cells := 0, slots := 0, locals := 0 }) (va_Pc [.int p0, .int p1] (fun U => va_P D vwCl [] U.heap ∧ va_K D vwCl (TY g) U)) (vp_Si (fun r => (0 ≤ (r : Int32).toInt ∧ (r : Int32).toInt ≤ 1) ∧ (Hide (¬ (r : Int32).toInt = 0 → bt p0 (p1 : Int32).toInt.toNat)) ∧ (Hide ((r : Int32).toInt = 0 → ¬ bt p0 (p1 : Int32).toInt.toNat)))) 0 0 (fun _ => False) := by
  refine Met.ofW (cc := cX12_bitOf) (maxL := 2) (ret := (some .boolean)) (by decide) rfl ?_
  intro p e s m args below meth c s₁ B hml hv
  obtain ⟨ha, hP, hK⟩ := hv
  have hx := B.exec
  have hb := B.bytes
  have hr := B.returns
  have hts0 := atoms_spec (ws := (.code yX12_bitOf cX12_bitOf 2 (some .boolean) :: wsL_law)) B.pre
  have hts : ∀ w ∈ wsL_law, w.before args s = true := fun w h => hts0 w (List.mem_cons_of_mem _ h)
  have hown : s.vm.findClass RX12 = some m.cls := findClass_of_methodNamed B.named
  have hlocks := B.notSynchronized
  have hP : va_P D vwCl [] s.heap := hP
  refine W.eq (g2 := entryFrame m ([.int p0, .int p1] : List Value).toArray 2) (by rw [ha]) ?_
  have hl := lv_entry ([.int p0, .int p1]) (n := 2) (Nat.le_of_ble_eq_true rfl)
  rw [lg_entry_eq]
  generalize (lg_sl ([.int p0, .int p1]) ++ List.replicate (2 - (lg_sl ([.int p0, .int p1])).length) Slot.unset).toArray = ls at hl ⊢
  have hl : lv_has ls 2 [(0, .int p0), (1, .int p1)] := hl
  refine lv_iload_n hx hb dX12_bitOf_0 rfl (lv_at hl 0 rfl) ?_
  refine lv_iload_n hx hb dX12_bitOf_1 rfl (lv_at hl 1 rfl) ?_
  refine lv_ishr hx hb dX12_bitOf_2 ?_
  refine lv_topi (fun v_7423 v_7423_e => ?_)
  refine lv_iconst (v := 1) hx hb dX12_bitOf_3 (by decide) ?_
  refine lv_iand hx hb dX12_bitOf_4 ?_
  refine lv_topi (fun v_7424 v_7424_e => ?_)
  refine lv_iconst (v := 1) hx hb dX12_bitOf_5 (by decide) ?_
  refine lv_icmp_ne (tgt := 13) hx hb dX12_bitOf_6 (by decide) (fun c_7425 => ?_) (fun c_7425 => ?_)
  · skip
    have kk_1 := tk_1
    have c_7425_i : ¬ (v_7424 : Int32).toInt = (1 : Int32).toInt := (fun q => c_7425 (Int32.toInt_inj.mp q))
    refine lv_iconst (v := 0) hx hb dX12_bitOf_13 (by decide) ?_
    exact W.zret (v := 0) hx hb hr (by decide) (fun t ht hW => ⟨0, rfl, ⟨(⟨by decide, by decide⟩ : 0 ≤ (0 : Int32).toInt ∧ (0 : Int32).toInt ≤ 1), (fun h9 => absurd h9 (by decide)), (fun _ h8 => c_7425 (by rw [v_7424_e, v_7423_e]; exact (tr_bit h_p0 h_p1).mpr h8))⟩, ht⟩) (fun _ h => nomatch h) dX12_bitOf_14
  · skip
    have kk_1 := tk_1
    have c_7425_i : (v_7424 : Int32).toInt = (1 : Int32).toInt := congrArg Int32.toInt c_7425
    have h_7426 : 1 ≤ (v_7424 : Int32).toInt ∧ (v_7424 : Int32).toInt ≤ 1 := by rw [c_7425]; exact ⟨by decide, by decide⟩
    refine lv_iconst (v := 1) hx hb dX12_bitOf_9 (by decide) ?_
    refine lv_goto (tgt := 14) hx hb dX12_bitOf_10 (by decide) ?_
    exact W.zret (v := 1) hx hb hr (by decide) (fun t ht hW => ⟨1, rfl, ⟨(⟨by decide, by decide⟩ : 0 ≤ (1 : Int32).toInt ∧ (1 : Int32).toInt ≤ 1), (fun _ => (tr_bit h_p0 h_p1).mp (by rw [← v_7423_e, ← v_7424_e]; exact c_7425)), (fun h9 => absurd h9 (by decide))⟩, ht⟩) (fun _ h => nomatch h) dX12_bitOf_14
set_option maxHeartbeats 4000000 in
set_option maxRecDepth 100000 in
theorem c_X12_onBits (l : Launch) (D : va_G) (g : Nat → ClassId) (mm : Nat) (p0 : Int32) (i_thrown : Int32) (m_s : Nat) (m_spare : Nat) (m_kept : Nat) (m_undone : Nat) (m_triedWay : Nat) (m_isKept : Nat) (i_undoMany : Int32) (m_tape : Nat) (i_length : Int32) (i_size : Int32) (i_p : Int32) (i_at : Int32) (i_token : Int32) (i_number : Int32) (i_letterMany : Int32) (i_fault : Int32) (i_faultAt : Int32) (m_letters : Nat) (i_isKnown : Int32) (m_choice : Nat) (m_row : Nat) (m_up : Nat) (m_low : Nat) (m_m : Nat) (m_bestUp : Nat) (m_bestLow : Nat) (m_replyUp : Nat) (m_replyLow : Nat) (m_worthUp : Nat) (m_worthLow : Nat) (m_bestWay : Nat) (i_seed : Int32) (m_told : Nat) (i_toldMany : Int32) (sf : Nat → Int32) (chf : Nat → Int32) (h_p0 : 0 ≤ (p0 : Int32).toInt ∧ (p0 : Int32).toInt ≤ 11) (h_i_undoMany : 0 ≤ (i_undoMany : Int32).toInt ∧ (i_undoMany : Int32).toInt ≤ 8) (h_i_length : 0 ≤ (i_length : Int32).toInt ∧ (i_length : Int32).toInt ≤ 440) (h_i_size : 0 ≤ (i_size : Int32).toInt ∧ (i_size : Int32).toInt ≤ 440) (h_i_p : 0 ≤ (i_p : Int32).toInt ∧ (i_p : Int32).toInt ≤ 440) (h_i_at : 0 ≤ (i_at : Int32).toInt ∧ (i_at : Int32).toInt ≤ 440) (h_i_token : 0 ≤ (i_token : Int32).toInt ∧ (i_token : Int32).toInt ≤ 4) (h_i_number : 0 ≤ (i_number : Int32).toInt ∧ (i_number : Int32).toInt ≤ 814) (h_i_letterMany : (-440) ≤ (i_letterMany : Int32).toInt ∧ (i_letterMany : Int32).toInt ≤ 440) (h_i_faultAt : 0 ≤ (i_faultAt : Int32).toInt ∧ (i_faultAt : Int32).toInt ≤ 440) (h_i_isKnown : 0 ≤ (i_isKnown : Int32).toInt ∧ (i_isKnown : Int32).toInt ≤ 1) (h_i_toldMany : 0 ≤ (i_toldMany : Int32).toInt ∧ (i_toldMany : Int32).toInt ≤ 900) (h_chf : ∀ j : Nat, 0 ≤ (chf j).toInt ∧ (chf j).toInt ≤ 2) (hG : GS sf) : Met l yX12_onBits (.code yX12_onBits cX12_onBits 4 (some .int) :: wsL_law) ({ frames := 1, cells := 0, slots := 0, locals := 22 }) (va_Pc [.ref mm, .int p0] (fun U => va_P D vwCl [(wO12 mm i_thrown m_s m_spare m_kept m_undone m_triedWay m_isKept i_undoMany m_tape i_length i_size i_p i_at i_token i_number i_letterMany i_fault i_faultAt m_letters i_isKnown m_choice m_row m_up m_low m_m m_bestUp m_bestLow m_replyUp m_replyLow m_worthUp m_worthLow m_bestWay i_seed m_told i_toldMany), (wI g m_s 0 193 sf), (wI g m_choice 0 12 chf)] U.heap ∧ va_K D vwCl (TY g) U)) (vp_Si (fun r => (0 ≤ (r : Int32).toInt ∧ (r : Int32).toInt ≤ 4095) ∧ (∀ j : Nat, bt r j ↔ ON sf chf (p0 : Int32).toInt.toNat j))) 0 0 (fun _ => False) := by
  refine Met.ofW (cc := cX12_onBits) (maxL := 4) (ret := (some .int)) (by decide) rfl ?_
  intro p e s m args below meth c s₁ B hml hv
  obtain ⟨ha, hP, hK⟩ := hv
  have hx := B.exec
  have hb := B.bytes
  have hr := B.returns
  have hts0 := atoms_spec (ws := (.code yX12_onBits cX12_onBits 4 (some .int) :: wsL_law)) B.pre
  have hts : ∀ w ∈ wsL_law, w.before args s = true := fun w h => hts0 w (List.mem_cons_of_mem _ h)
  have hown : s.vm.findClass RX12 = some m.cls := findClass_of_methodNamed B.named
  have hlocks := B.notSynchronized
  have hP : va_P D vwCl [(wO12 mm i_thrown m_s m_spare m_kept m_undone m_triedWay m_isKept i_undoMany m_tape i_length i_size i_p i_at i_token i_number i_letterMany i_fault i_faultAt m_letters i_isKnown m_choice m_row m_up m_low m_m m_bestUp m_bestLow m_replyUp m_replyLow m_worthUp m_worthLow m_bestWay i_seed m_told i_toldMany), (wI g m_s 0 193 sf), (wI g m_choice 0 12 chf)] s.heap := hP
  refine W.eq (g2 := entryFrame m ([.ref mm, .int p0] : List Value).toArray 4) (by rw [ha]) ?_
  have hl := lv_entry ([.ref mm, .int p0]) (n := 4) (Nat.le_of_ble_eq_true rfl)
  rw [lg_entry_eq]
  generalize (lg_sl ([.ref mm, .int p0]) ++ List.replicate (4 - (lg_sl ([.ref mm, .int p0])).length) Slot.unset).toArray = ls at hl ⊢
  have hl : lv_has ls 4 [(0, .ref mm), (1, .int p0)] := hl
  refine lv_iconst (v := 0) hx hb dX12_onBits_0 (by decide) ?_
  refine lv_istore_n (lv' := [(2, .int 0), (0, .ref mm), (1, .int p0)]) hx hb dX12_onBits_1 rfl hl (by decide) rfl (fun ls hl => ?_)
  refine lv_iconst (v := 0) hx hb dX12_onBits_2 (by decide) ?_
  refine lv_istore_n (lv' := [(3, .int 0), (2, .int 0), (0, .ref mm), (1, .int p0)]) hx hb dX12_onBits_3 rfl hl (by decide) rfl (fun ls hl => ?_)
  have lp_7454 : ∀ (n_7454 : Nat) (x_7452 : Int32) (x_7453 : Int32) (ls : Array Slot), (0 ≤ (x_7452 : Int32).toInt ∧ (x_7452 : Int32).toInt ≤ 4095) → (0 ≤ (x_7453 : Int32).toInt ∧ (x_7453 : Int32).toInt ≤ 3) → (∀ j : Nat, bt x_7452 j ↔ ONi sf chf (p0 : Int32).toInt.toNat x_7453.toInt.toNat j) → (x_7453.toInt ≤ (sf (25 + (p0 : Int32).toInt.toNat)).toInt) → (3 - x_7453.toInt < (n_7454 : Int)) → lv_has ls 4 [(3, .int x_7453), (2, .int x_7452), (0, .ref mm), (1, .int p0)] → W p l e (headSpec (.code yX12_onBits cX12_onBits 4 (some .int) :: wsL_law) ({ frames := 1, cells := 0, slots := 0, locals := 22 })).room s m args below meth c s.heap [] 0 0 (MQ below (vp_Si (fun r => (0 ≤ (r : Int32).toInt ∧ (r : Int32).toInt ≤ 4095) ∧ (∀ j : Nat, bt r j ↔ ON sf chf (p0 : Int32).toInt.toNat j))) args s 0 0 (fun _ => False)) (F0 m 4 ls []) := by
    intro n_7454
    induction n_7454 with
    | zero =>
      intro x_7452 x_7453 ls h_x_7452 h_x_7453 hr7454_0 hr7454_1 hm_7454 hl
      exfalso; omega
    | succ n_7454 ih_7454 =>
      intro x_7452 x_7453 ls h_x_7452 h_x_7453 hr7454_0 hr7454_1 hm_7454 hl
      refine lv_iload_n hx hb dX12_onBits_4 rfl (lv_at hl 0 rfl) ?_
      refine lv_aload_n hx hb dX12_onBits_5 rfl (lv_at hl 2 rfl) ?_
      refine va_get (D := D) (ci := 12) (v := .ref m_s) (C := RX12) (T := TX12) (N := 35) hx hb hts inlX12 hown hK hP 0 rfl rfl 1 (by decide) (hts (Cond.fieldLink RX12 13 "ChanceRingsModel" "s" "[I") qw_73) (fun _ h9 => h9) rfl dX12_onBits_6 ?_
      refine lv_bipush (v := 25) hx hb dX12_onBits_9 (by decide) ?_
      refine lv_iload_n hx hb dX12_onBits_11 rfl (lv_at hl 3 rfl) ?_
      refine lv_iadd hx hb dX12_onBits_12 ?_
      refine lv_topi (fun v_7455 v_7455_e => ?_)
      have h_v_7455 : 25 ≤ (v_7455 : Int32).toInt ∧ (v_7455 : Int32).toInt ≤ 36 := by rw [v_7455_e]; exact tr_add (⟨by decide, by decide⟩ : 25 ≤ (25 : Int32).toInt ∧ (25 : Int32).toInt ≤ 25) h_p0 (by decide) (by decide) (by decide) (by decide)
      have q_v_7455 : v_7455.toInt = 25 + p0.toInt := by rw [v_7455_e]; exact (tr_addX (⟨by decide, by decide⟩ : 25 ≤ (25 : Int32).toInt ∧ (25 : Int32).toInt ≤ 25) h_p0 (by decide) (by decide)).trans (by rw [tk_25])
      refine va_iald hx hb hK hP 1 0 rfl rfl (tr_in h_v_7455 (by decide) (by decide)) dX12_onBits_13 ?_
      refine lv_topi (fun v_7456 v_7456_e => ?_)
      have h_v_7456 : 0 ≤ (v_7456 : Int32).toInt ∧ (v_7456 : Int32).toInt ≤ 3 := by rw [v_7456_e]; exact gr_ways hG.r (tr_w h_v_7455 (by decide) (by decide))
      have g_v_7456 : v_7456 = sf (25 + p0.toInt.toNat) := v_7456_e.trans (congrArg sf (by show Int.toNat _ = _; (first | (clear h_i_undoMany h_i_length h_i_size h_i_p h_i_at h_i_token h_i_number h_i_letterMany h_i_faultAt h_i_isKnown h_i_toldMany h_x_7452 h_x_7453; omega) | omega)))
      have gi_v_7456 := congrArg Int32.toInt g_v_7456
      refine lv_icmp_ge (tgt := 53) hx hb dX12_onBits_14 (by decide) (fun c_7457 => ?_) (fun c_7457 => ?_)
      · skip
        have c_7457_i := Int32.le_iff_toInt_le.mp c_7457
        refine lv_iload_n hx hb dX12_onBits_53 rfl (lv_at hl 1 rfl) ?_
        exact W.iret (v := x_7452) hx hb hr (fun t ht hW => ⟨x_7452, rfl, ⟨(tr_w h_x_7452 (by decide) (by decide)), (on_done hr7454_0 (by (first | (clear h_p0 h_i_undoMany h_i_length h_i_size h_i_p h_i_at h_i_token h_i_number h_i_letterMany h_i_faultAt h_i_isKnown h_i_toldMany h_x_7453 h_v_7455 q_v_7455 h_v_7456 g_v_7456 gi_v_7456 c_7457_i; omega) | omega)))⟩, ht⟩) (fun _ h => nomatch h) dX12_onBits_54
      · skip
        have c_7457_i := Int32.lt_iff_toInt_lt.mp (Int32.not_le.mp c_7457)
        have h_7458 : 0 ≤ (x_7453 : Int32).toInt ∧ (x_7453 : Int32).toInt ≤ 2 := nr_lt_l h_x_7453 h_v_7456 c_7457_i (by decide) (by decide)
        have h_7459 : 1 ≤ (v_7456 : Int32).toInt ∧ (v_7456 : Int32).toInt ≤ 3 := nr_lt_r h_x_7453 h_v_7456 c_7457_i (by decide) (by decide)
        refine lv_aload_n hx hb dX12_onBits_17 rfl (lv_at hl 2 rfl) ?_
        refine lv_iload_n hx hb dX12_onBits_18 rfl (lv_at hl 3 rfl) ?_
        refine lv_iconst (v := 3) hx hb dX12_onBits_19 (by decide) ?_
        have hPc := hP.sub (ws' := [(wO12 mm i_thrown m_s m_spare m_kept m_undone m_triedWay m_isKept i_undoMany m_tape i_length i_size i_p i_at i_token i_number i_letterMany i_fault i_faultAt m_letters i_isKnown m_choice m_row m_up m_low m_m m_bestUp m_bestLow m_replyUp m_replyLow m_worthUp m_worthLow m_bestWay i_seed m_told i_toldMany), (wI g m_s 0 193 sf)]) [0, 1] rfl
        refine vp_callSi (va_Run.run (va_runV (As := [.int p0, .int 3]) (rest := []) ⟨hx, hb, hml, hown, hts⟩ (c_X12_isKind l D g mm p0 3 i_thrown m_s m_spare m_kept m_undone m_triedWay m_isKept i_undoMany m_tape i_length i_size i_p i_at i_token i_number i_letterMany i_fault i_faultAt m_letters i_isKnown m_choice m_row m_up m_low m_m m_bestUp m_bestLow m_replyUp m_replyLow m_worthUp m_worthLow m_bestWay i_seed m_told i_toldMany sf (tr_w h_p0 (by decide) (by decide)) (tr_w h_i_undoMany (by decide) (by decide)) (tr_w h_i_length (by decide) (by decide)) (tr_w h_i_size (by decide) (by decide)) (tr_w h_i_p (by decide) (by decide)) (tr_w h_i_at (by decide) (by decide)) (tr_w h_i_token (by decide) (by decide)) (tr_w h_i_number (by decide) (by decide)) (tr_w h_i_letterMany (by decide) (by decide)) (tr_w h_i_faultAt (by decide) (by decide)) (tr_w h_i_isKnown (by decide) (by decide)) (tr_w h_i_toldMany (by decide) (by decide)) hG) (cwV 2 hts (tz_gV qw_94 qw_95 qw_96 qw_3 qw_97) rfl rfl rfl (by decide +kernel) ⟨Nat.le_of_ble_eq_true rfl, Nat.le_of_ble_eq_true rfl⟩) ⟨tz_blS, va_recv hK hPc (ci := 12) (q0 := 0) rfl rfl, tz_preS hPc hK⟩ rfl rfl hl.1 rfl (lv_room (Nat.le_of_ble_eq_true rfl)) dX12_onBits_20 ⟨Nat.le_of_ble_eq_true rfl, Nat.le_of_ble_eq_true rfl⟩)) (fun r_7460 hw => ?_)
        have kk_3 := tk_3
        have hw_7461 : 0 ≤ (r_7460 : Int32).toInt ∧ (r_7460 : Int32).toInt ≤ 1 := hw.1
        have hw_7461_p0 : Hide (¬ (r_7460 : Int32).toInt = 0 → (sf (1 + (p0 : Int32).toInt.toNat)).toInt = (3 : Int32).toInt) := hw.2.1
        have hw_7461_p1 : Hide ((r_7460 : Int32).toInt = 0 → ¬ (sf (1 + (p0 : Int32).toInt.toNat)).toInt = (3 : Int32).toInt) := hw.2.2
        refine lv_if_ne (tgt := 36) hx hb dX12_onBits_23 (by decide) (fun c_7462 => ?_) (fun c_7462 => ?_)
        · skip
          have kk_0 := tk_0
          have c_7462_i : ¬ (r_7460 : Int32).toInt = (0 : Int32).toInt := (fun q => c_7462 (Int32.toInt_inj.mp q))
          have hw_7461_p0_u := (hw_7461_p0).get (fun q => c_7462_i (q.trans tk_0.symm))
          have h_7463 : 1 ≤ (r_7460 : Int32).toInt ∧ (r_7460 : Int32).toInt ≤ 1 := nr_ne_l hw_7461 (⟨by decide, by decide⟩ : 0 ≤ (0 : Int32).toInt ∧ (0 : Int32).toInt ≤ 0) c_7462_i (by decide) (by decide)
          refine lv_iload_n hx hb dX12_onBits_36 rfl (lv_at hl 1 rfl) ?_
          refine lv_iconst (v := 1) hx hb dX12_onBits_37 (by decide) ?_
          refine lv_aload_n hx hb dX12_onBits_38 rfl (lv_at hl 2 rfl) ?_
          refine lv_iload_n hx hb dX12_onBits_39 rfl (lv_at hl 3 rfl) ?_
          refine lv_iload_n hx hb dX12_onBits_40 rfl (lv_at hl 0 rfl) ?_
          have hPc := hP.sub (ws' := [(wO12 mm i_thrown m_s m_spare m_kept m_undone m_triedWay m_isKept i_undoMany m_tape i_length i_size i_p i_at i_token i_number i_letterMany i_fault i_faultAt m_letters i_isKnown m_choice m_row m_up m_low m_m m_bestUp m_bestLow m_replyUp m_replyLow m_worthUp m_worthLow m_bestWay i_seed m_told i_toldMany), (wI g m_s 0 193 sf)]) [0, 1] rfl
          refine vp_callSi (va_Run.run (va_runV (As := [.int p0, .int x_7453]) (rest := [.int 1, .int x_7452]) ⟨hx, hb, hml, hown, hts⟩ (c_X12_to l D g mm p0 x_7453 i_thrown m_s m_spare m_kept m_undone m_triedWay m_isKept i_undoMany m_tape i_length i_size i_p i_at i_token i_number i_letterMany i_fault i_faultAt m_letters i_isKnown m_choice m_row m_up m_low m_m m_bestUp m_bestLow m_replyUp m_replyLow m_worthUp m_worthLow m_bestWay i_seed m_told i_toldMany sf (tr_w h_p0 (by decide) (by decide)) (tr_w h_7458 (by decide) (by decide)) (tr_w h_i_undoMany (by decide) (by decide)) (tr_w h_i_length (by decide) (by decide)) (tr_w h_i_size (by decide) (by decide)) (tr_w h_i_p (by decide) (by decide)) (tr_w h_i_at (by decide) (by decide)) (tr_w h_i_token (by decide) (by decide)) (tr_w h_i_number (by decide) (by decide)) (tr_w h_i_letterMany (by decide) (by decide)) (tr_w h_i_faultAt (by decide) (by decide)) (tr_w h_i_isKnown (by decide) (by decide)) (tr_w h_i_toldMany (by decide) (by decide)) hG) (cwV 2 hts (tz_gV qw_121 qw_122 qw_123 qw_3 qw_124) rfl rfl rfl (by decide +kernel) ⟨Nat.le_of_ble_eq_true rfl, Nat.le_of_ble_eq_true rfl⟩) ⟨tz_blS, va_recv hK hPc (ci := 12) (q0 := 0) rfl rfl, tz_preS hPc hK⟩ rfl rfl hl.1 rfl (lv_room (Nat.le_of_ble_eq_true rfl)) dX12_onBits_41 ⟨Nat.le_of_ble_eq_true rfl, Nat.le_of_ble_eq_true rfl⟩)) (fun r_7465 hw => ?_)
          have hw_7466 : 0 ≤ (r_7465 : Int32).toInt ∧ (r_7465 : Int32).toInt ≤ 11 := hw.1
          have hw_7466_p0 : (r_7465 : Int32) = sf (37 + 3 * (p0 : Int32).toInt.toNat + (x_7453 : Int32).toInt.toNat) := hw.2
          refine lv_ishl hx hb dX12_onBits_44 ?_
          refine lv_topi (fun v_7467 v_7467_e => ?_)
          have h_v_7467 : 0 ≤ (v_7467 : Int32).toInt ∧ (v_7467 : Int32).toInt ≤ 4095 := by rw [v_7467_e]; exact tr_shl12 (tr_w hw_7466 (by decide) (by decide))
          refine lv_ior hx hb dX12_onBits_45 ?_
          refine lv_topi (fun v_7468 v_7468_e => ?_)
          have h_v_7468 : 0 ≤ (v_7468 : Int32).toInt ∧ (v_7468 : Int32).toInt ≤ 4095 := by rw [v_7468_e]; exact (tr_or12 (tr_w h_x_7452 (by decide) (by decide)) (tr_w h_v_7467 (by decide) (by decide))).1
          have o_v_7468 : (x_7452 : Int32).toInt ≤ (v_7468 : Int32).toInt := by rw [v_7468_e]; exact (tr_or12 (tr_w h_x_7452 (by decide) (by decide)) (tr_w h_v_7467 (by decide) (by decide))).2
          refine lv_istore_n (lv' := [(2, .int v_7468), (3, .int x_7453), (0, .ref mm), (1, .int p0)]) hx hb dX12_onBits_46 rfl hl (by decide) rfl (fun ls hl => ?_)
          obtain ⟨v_7469, v_7469_e⟩ : ∃ y : Int32, y = x_7453 + Int32.ofInt 1 := ⟨_, rfl⟩
          have h_v_7469 : 1 ≤ (v_7469 : Int32).toInt ∧ (v_7469 : Int32).toInt ≤ 3 := by rw [v_7469_e]; exact tr_add h_7458 (⟨by decide, by decide⟩ : 1 ≤ (Int32.ofInt 1 : Int32).toInt ∧ (Int32.ofInt 1 : Int32).toInt ≤ 1) (by decide) (by decide) (by decide) (by decide)
          have q_v_7469 : v_7469.toInt = x_7453.toInt + 1 := by rw [v_7469_e]; exact tr_addE h_7458 (⟨by decide, by decide⟩ : 1 ≤ (Int32.ofInt 1 : Int32).toInt ∧ (Int32.ofInt 1 : Int32).toInt ≤ 1) (by decide) (by decide)
          refine lv_iinc (v := v_7469) (lv' := [(3, .int v_7469), (2, .int v_7468), (0, .ref mm), (1, .int p0)]) hx hb dX12_onBits_47 hl (k := 1) rfl v_7469_e.symm (by decide) rfl (fun ls hl => ?_)
          refine lv_goto (tgt := 4) hx hb dX12_onBits_50 (by decide) ?_
          exact ih_7454 v_7468 v_7469 ls (tr_w h_v_7468 (by decide) (by decide)) (tr_w h_v_7469 (by decide) (by decide)) (on_add (t := r_7465) hr7454_0 h_x_7452 hw_7466 v_7467_e v_7468_e (by have z3 := tk_3; (first | (clear h_i_undoMany h_i_length h_i_size h_i_p h_i_at h_i_token h_i_number h_i_letterMany h_i_faultAt h_i_isKnown h_i_toldMany hw_7461 c_7462_i h_7463 h_v_7467; omega) | omega)) hw_7466_p0 (by (first | (clear h_i_undoMany h_i_length h_i_size h_i_p h_i_at h_i_token h_i_number h_i_letterMany h_i_faultAt h_i_isKnown h_i_toldMany hw_7461 c_7462_i h_7463 h_v_7467; omega) | omega))) (by have z_0 := tk_0; have q9 := (hG.r.2.1 (p0 : Int32).toInt.toNat (by (first | (clear h_i_undoMany h_i_length h_i_size h_i_p h_i_at h_i_token h_i_number h_i_letterMany h_i_faultAt h_i_isKnown h_i_toldMany hw_7461 c_7462_i h_7463 h_v_7467; omega) | omega))).2.2.1; (first | (clear h_i_undoMany h_i_length h_i_size h_i_p h_i_at h_i_token h_i_number h_i_letterMany h_i_faultAt h_i_isKnown h_i_toldMany hw_7461 c_7462_i h_7463 h_v_7467; omega) | omega)) (by (first | (clear h_i_undoMany h_i_length h_i_size h_i_p h_i_at h_i_token h_i_number h_i_letterMany h_i_faultAt h_i_isKnown h_i_toldMany hw_7461 c_7462_i h_7463 h_v_7467; omega) | omega)) (lv_sub hl [0, 1, 2, 3] rfl)
        · skip
          have kk_0 := tk_0
          have c_7462_i : (r_7460 : Int32).toInt = (0 : Int32).toInt := congrArg Int32.toInt c_7462
          have hw_7461_p1_u := (hw_7461_p1).get (c_7462_i.trans tk_0)
          have h_7464 : 0 ≤ (r_7460 : Int32).toInt ∧ (r_7460 : Int32).toInt ≤ 0 := nr_eq_l hw_7461 (⟨by decide, by decide⟩ : 0 ≤ (0 : Int32).toInt ∧ (0 : Int32).toInt ≤ 0) c_7462_i (by decide) (by decide)
          refine lv_aload_n hx hb dX12_onBits_26 rfl (lv_at hl 2 rfl) ?_
          refine va_get (D := D) (ci := 12) (v := .ref m_choice) (C := RX12) (T := TX12) (N := 35) hx hb hts inlX12 hown hK hP 0 rfl rfl 20 (by decide) (hts (Cond.fieldLink RX12 40 "ChanceRingsModel" "choice" "[I") qw_125) (fun _ h9 => h9) rfl dX12_onBits_27 ?_
          refine lv_iload_n hx hb dX12_onBits_30 rfl (lv_at hl 3 rfl) ?_
          refine va_iald hx hb hK hP 2 0 rfl rfl (tr_in h_p0 (by decide) (by decide)) dX12_onBits_31 ?_
          refine lv_topi (fun v_7470 v_7470_e => ?_)
          have h_v_7470 : 0 ≤ (v_7470 : Int32).toInt ∧ (v_7470 : Int32).toInt ≤ 2 := by rw [v_7470_e]; exact h_chf _
          have g_v_7470 : v_7470 = chf (p0.toInt.toNat) := v_7470_e.trans (congrArg chf rfl)
          have gi_v_7470 := congrArg Int32.toInt g_v_7470
          refine lv_iload_n hx hb dX12_onBits_32 rfl (lv_at hl 0 rfl) ?_
          refine lv_icmp_ne (tgt := 47) hx hb dX12_onBits_33 (by decide) (fun c_7471 => ?_) (fun c_7471 => ?_)
          · skip
            have c_7471_i : ¬ (v_7470 : Int32).toInt = (x_7453 : Int32).toInt := (fun q => c_7471 (Int32.toInt_inj.mp q))
            obtain ⟨v_7472, v_7472_e⟩ : ∃ y : Int32, y = x_7453 + Int32.ofInt 1 := ⟨_, rfl⟩
            have h_v_7472 : 1 ≤ (v_7472 : Int32).toInt ∧ (v_7472 : Int32).toInt ≤ 3 := by rw [v_7472_e]; exact tr_add h_7458 (⟨by decide, by decide⟩ : 1 ≤ (Int32.ofInt 1 : Int32).toInt ∧ (Int32.ofInt 1 : Int32).toInt ≤ 1) (by decide) (by decide) (by decide) (by decide)
            have q_v_7472 : v_7472.toInt = x_7453.toInt + 1 := by rw [v_7472_e]; exact tr_addE h_7458 (⟨by decide, by decide⟩ : 1 ≤ (Int32.ofInt 1 : Int32).toInt ∧ (Int32.ofInt 1 : Int32).toInt ≤ 1) (by decide) (by decide)
            refine lv_iinc (v := v_7472) (lv' := [(3, .int v_7472), (2, .int x_7452), (0, .ref mm), (1, .int p0)]) hx hb dX12_onBits_47 hl (k := 0) rfl v_7472_e.symm (by decide) rfl (fun ls hl => ?_)
            refine lv_goto (tgt := 4) hx hb dX12_onBits_50 (by decide) ?_
            exact ih_7454 x_7452 v_7472 ls (tr_w h_x_7452 (by decide) (by decide)) (tr_w h_v_7472 (by decide) (by decide)) (on_skip hr7454_0 (by have z3 := tk_3; (first | (clear h_i_undoMany h_i_length h_i_size h_i_p h_i_at h_i_token h_i_number h_i_letterMany h_i_faultAt h_i_isKnown h_i_toldMany hw_7461 c_7462_i h_7464; omega) | omega)) (by (first | (clear h_i_undoMany h_i_length h_i_size h_i_p h_i_at h_i_token h_i_number h_i_letterMany h_i_faultAt h_i_isKnown h_i_toldMany hw_7461 c_7462_i h_7464; omega) | omega))) (by have z_0 := tk_0; have q9 := (hG.r.2.1 (p0 : Int32).toInt.toNat (by (first | (clear h_i_undoMany h_i_length h_i_size h_i_p h_i_at h_i_token h_i_number h_i_letterMany h_i_faultAt h_i_isKnown h_i_toldMany hw_7461 c_7462_i h_7464; omega) | omega))).2.2.1; (first | (clear h_i_undoMany h_i_length h_i_size h_i_p h_i_at h_i_token h_i_number h_i_letterMany h_i_faultAt h_i_isKnown h_i_toldMany hw_7461 c_7462_i h_7464; omega) | omega)) (by (first | (clear h_i_undoMany h_i_length h_i_size h_i_p h_i_at h_i_token h_i_number h_i_letterMany h_i_faultAt h_i_isKnown h_i_toldMany hw_7461 c_7462_i h_7464; omega) | omega)) (lv_sub hl [0, 1, 2, 3] rfl)
          · skip
            have c_7471_i : (v_7470 : Int32).toInt = (x_7453 : Int32).toInt := congrArg Int32.toInt c_7471
            refine lv_iload_n hx hb dX12_onBits_36 rfl (lv_at hl 1 rfl) ?_
            refine lv_iconst (v := 1) hx hb dX12_onBits_37 (by decide) ?_
            refine lv_aload_n hx hb dX12_onBits_38 rfl (lv_at hl 2 rfl) ?_
            refine lv_iload_n hx hb dX12_onBits_39 rfl (lv_at hl 3 rfl) ?_
            refine lv_iload_n hx hb dX12_onBits_40 rfl (lv_at hl 0 rfl) ?_
            have hPc := hP.sub (ws' := [(wO12 mm i_thrown m_s m_spare m_kept m_undone m_triedWay m_isKept i_undoMany m_tape i_length i_size i_p i_at i_token i_number i_letterMany i_fault i_faultAt m_letters i_isKnown m_choice m_row m_up m_low m_m m_bestUp m_bestLow m_replyUp m_replyLow m_worthUp m_worthLow m_bestWay i_seed m_told i_toldMany), (wI g m_s 0 193 sf)]) [0, 1] rfl
            refine vp_callSi (va_Run.run (va_runV (As := [.int p0, .int x_7453]) (rest := [.int 1, .int x_7452]) ⟨hx, hb, hml, hown, hts⟩ (c_X12_to l D g mm p0 x_7453 i_thrown m_s m_spare m_kept m_undone m_triedWay m_isKept i_undoMany m_tape i_length i_size i_p i_at i_token i_number i_letterMany i_fault i_faultAt m_letters i_isKnown m_choice m_row m_up m_low m_m m_bestUp m_bestLow m_replyUp m_replyLow m_worthUp m_worthLow m_bestWay i_seed m_told i_toldMany sf (tr_w h_p0 (by decide) (by decide)) (tr_w h_7458 (by decide) (by decide)) (tr_w h_i_undoMany (by decide) (by decide)) (tr_w h_i_length (by decide) (by decide)) (tr_w h_i_size (by decide) (by decide)) (tr_w h_i_p (by decide) (by decide)) (tr_w h_i_at (by decide) (by decide)) (tr_w h_i_token (by decide) (by decide)) (tr_w h_i_number (by decide) (by decide)) (tr_w h_i_letterMany (by decide) (by decide)) (tr_w h_i_faultAt (by decide) (by decide)) (tr_w h_i_isKnown (by decide) (by decide)) (tr_w h_i_toldMany (by decide) (by decide)) hG) (cwV 2 hts (tz_gV qw_121 qw_122 qw_123 qw_3 qw_124) rfl rfl rfl (by decide +kernel) ⟨Nat.le_of_ble_eq_true rfl, Nat.le_of_ble_eq_true rfl⟩) ⟨tz_blS, va_recv hK hPc (ci := 12) (q0 := 0) rfl rfl, tz_preS hPc hK⟩ rfl rfl hl.1 rfl (lv_room (Nat.le_of_ble_eq_true rfl)) dX12_onBits_41 ⟨Nat.le_of_ble_eq_true rfl, Nat.le_of_ble_eq_true rfl⟩)) (fun r_7473 hw => ?_)
            have hw_7474 : 0 ≤ (r_7473 : Int32).toInt ∧ (r_7473 : Int32).toInt ≤ 11 := hw.1
            have hw_7474_p0 : (r_7473 : Int32) = sf (37 + 3 * (p0 : Int32).toInt.toNat + (x_7453 : Int32).toInt.toNat) := hw.2
            refine lv_ishl hx hb dX12_onBits_44 ?_
            refine lv_topi (fun v_7475 v_7475_e => ?_)
            have h_v_7475 : 0 ≤ (v_7475 : Int32).toInt ∧ (v_7475 : Int32).toInt ≤ 4095 := by rw [v_7475_e]; exact tr_shl12 (tr_w hw_7474 (by decide) (by decide))
            refine lv_ior hx hb dX12_onBits_45 ?_
            refine lv_topi (fun v_7476 v_7476_e => ?_)
            have h_v_7476 : 0 ≤ (v_7476 : Int32).toInt ∧ (v_7476 : Int32).toInt ≤ 4095 := by rw [v_7476_e]; exact (tr_or12 (tr_w h_x_7452 (by decide) (by decide)) (tr_w h_v_7475 (by decide) (by decide))).1
            have o_v_7476 : (x_7452 : Int32).toInt ≤ (v_7476 : Int32).toInt := by rw [v_7476_e]; exact (tr_or12 (tr_w h_x_7452 (by decide) (by decide)) (tr_w h_v_7475 (by decide) (by decide))).2
            refine lv_istore_n (lv' := [(2, .int v_7476), (3, .int x_7453), (0, .ref mm), (1, .int p0)]) hx hb dX12_onBits_46 rfl hl (by decide) rfl (fun ls hl => ?_)
            obtain ⟨v_7477, v_7477_e⟩ : ∃ y : Int32, y = x_7453 + Int32.ofInt 1 := ⟨_, rfl⟩
            have h_v_7477 : 1 ≤ (v_7477 : Int32).toInt ∧ (v_7477 : Int32).toInt ≤ 3 := by rw [v_7477_e]; exact tr_add h_7458 (⟨by decide, by decide⟩ : 1 ≤ (Int32.ofInt 1 : Int32).toInt ∧ (Int32.ofInt 1 : Int32).toInt ≤ 1) (by decide) (by decide) (by decide) (by decide)
            have q_v_7477 : v_7477.toInt = x_7453.toInt + 1 := by rw [v_7477_e]; exact tr_addE h_7458 (⟨by decide, by decide⟩ : 1 ≤ (Int32.ofInt 1 : Int32).toInt ∧ (Int32.ofInt 1 : Int32).toInt ≤ 1) (by decide) (by decide)
            refine lv_iinc (v := v_7477) (lv' := [(3, .int v_7477), (2, .int v_7476), (0, .ref mm), (1, .int p0)]) hx hb dX12_onBits_47 hl (k := 1) rfl v_7477_e.symm (by decide) rfl (fun ls hl => ?_)
            refine lv_goto (tgt := 4) hx hb dX12_onBits_50 (by decide) ?_
            exact ih_7454 v_7476 v_7477 ls (tr_w h_v_7476 (by decide) (by decide)) (tr_w h_v_7477 (by decide) (by decide)) (on_add (t := r_7473) hr7454_0 h_x_7452 hw_7474 v_7475_e v_7476_e (by have z3 := tk_3; (first | (clear h_i_undoMany h_i_length h_i_size h_i_p h_i_at h_i_token h_i_number h_i_letterMany h_i_faultAt h_i_isKnown h_i_toldMany hw_7461 c_7462_i h_7464 h_v_7475; omega) | omega)) hw_7474_p0 (by (first | (clear h_i_undoMany h_i_length h_i_size h_i_p h_i_at h_i_token h_i_number h_i_letterMany h_i_faultAt h_i_isKnown h_i_toldMany hw_7461 c_7462_i h_7464 h_v_7475; omega) | omega))) (by have z_0 := tk_0; have q9 := (hG.r.2.1 (p0 : Int32).toInt.toNat (by (first | (clear h_i_undoMany h_i_length h_i_size h_i_p h_i_at h_i_token h_i_number h_i_letterMany h_i_faultAt h_i_isKnown h_i_toldMany hw_7461 c_7462_i h_7464 h_v_7475; omega) | omega))).2.2.1; (first | (clear h_i_undoMany h_i_length h_i_size h_i_p h_i_at h_i_token h_i_number h_i_letterMany h_i_faultAt h_i_isKnown h_i_toldMany hw_7461 c_7462_i h_7464 h_v_7475; omega) | omega)) (by (first | (clear h_i_undoMany h_i_length h_i_size h_i_p h_i_at h_i_token h_i_number h_i_letterMany h_i_faultAt h_i_isKnown h_i_toldMany hw_7461 c_7462_i h_7464 h_v_7475; omega) | omega)) (lv_sub hl [0, 1, 2, 3] rfl)
  exact lp_7454 4 0 0 ls (⟨by decide, by decide⟩ : 0 ≤ (0 : Int32).toInt ∧ (0 : Int32).toInt ≤ 4095) (⟨by decide, by decide⟩ : 0 ≤ (0 : Int32).toInt ∧ (0 : Int32).toInt ≤ 3) on_zero (by have z_0 := tk_0; have q9 := (hG.r.2.1 (p0 : Int32).toInt.toNat (by (first | (clear h_i_undoMany h_i_length h_i_size h_i_p h_i_at h_i_token h_i_number h_i_letterMany h_i_faultAt h_i_isKnown h_i_toldMany; omega) | omega))).2.2.1; (first | (clear h_i_undoMany h_i_length h_i_size h_i_p h_i_at h_i_token h_i_number h_i_letterMany h_i_faultAt h_i_isKnown h_i_toldMany; omega) | omega)) (by decide) (lv_sub hl [0, 1, 2, 3] rfl)
set_option maxHeartbeats 4000000 in
set_option maxRecDepth 100000 in
theorem c_X12_ends (l : Launch) (D : va_G) (g : Nat → ClassId) (mm : Nat) (i_thrown : Int32) (m_s : Nat) (m_spare : Nat) (m_kept : Nat) (m_undone : Nat) (m_triedWay : Nat) (m_isKept : Nat) (i_undoMany : Int32) (m_tape : Nat) (i_length : Int32) (i_size : Int32) (i_p : Int32) (i_at : Int32) (i_token : Int32) (i_number : Int32) (i_letterMany : Int32) (i_fault : Int32) (i_faultAt : Int32) (m_letters : Nat) (i_isKnown : Int32) (m_choice : Nat) (m_row : Nat) (m_up : Nat) (m_low : Nat) (m_m : Nat) (m_bestUp : Nat) (m_bestLow : Nat) (m_replyUp : Nat) (m_replyLow : Nat) (m_worthUp : Nat) (m_worthLow : Nat) (m_bestWay : Nat) (i_seed : Int32) (m_told : Nat) (i_toldMany : Int32) (sf : Nat → Int32) (h_i_undoMany : 0 ≤ (i_undoMany : Int32).toInt ∧ (i_undoMany : Int32).toInt ≤ 8) (h_i_length : 0 ≤ (i_length : Int32).toInt ∧ (i_length : Int32).toInt ≤ 440) (h_i_size : 0 ≤ (i_size : Int32).toInt ∧ (i_size : Int32).toInt ≤ 440) (h_i_p : 0 ≤ (i_p : Int32).toInt ∧ (i_p : Int32).toInt ≤ 440) (h_i_at : 0 ≤ (i_at : Int32).toInt ∧ (i_at : Int32).toInt ≤ 440) (h_i_token : 0 ≤ (i_token : Int32).toInt ∧ (i_token : Int32).toInt ≤ 4) (h_i_number : 0 ≤ (i_number : Int32).toInt ∧ (i_number : Int32).toInt ≤ 814) (h_i_letterMany : (-440) ≤ (i_letterMany : Int32).toInt ∧ (i_letterMany : Int32).toInt ≤ 440) (h_i_faultAt : 0 ≤ (i_faultAt : Int32).toInt ∧ (i_faultAt : Int32).toInt ≤ 440) (h_i_isKnown : 0 ≤ (i_isKnown : Int32).toInt ∧ (i_isKnown : Int32).toInt ≤ 1) (h_i_toldMany : 0 ≤ (i_toldMany : Int32).toInt ∧ (i_toldMany : Int32).toInt ≤ 900) (hG : GS sf) : Met l yX12_ends (.code yX12_ends cX12_ends 3 (some .int) :: wsL_law) ({ frames := 1, cells := 0, slots := 0, locals := 22 }) (va_Pc [.ref mm] (fun U => va_P D vwCl [(wO12 mm i_thrown m_s m_spare m_kept m_undone m_triedWay m_isKept i_undoMany m_tape i_length i_size i_p i_at i_token i_number i_letterMany i_fault i_faultAt m_letters i_isKnown m_choice m_row m_up m_low m_m m_bestUp m_bestLow m_replyUp m_replyLow m_worthUp m_worthLow m_bestWay i_seed m_told i_toldMany), (wI g m_s 0 193 sf)] U.heap ∧ va_K D vwCl (TY g) U)) (vp_Si (fun r => (0 ≤ (r : Int32).toInt ∧ (r : Int32).toInt ≤ 4095) ∧ (∀ j : Nat, bt r j ↔ (j < (sf 0).toInt.toNat ∧ (sf (1 + j)).toInt = 0)))) 0 0 (fun _ => False) := by
  refine Met.ofW (cc := cX12_ends) (maxL := 3) (ret := (some .int)) (by decide) rfl ?_
  intro p e s m args below meth c s₁ B hml hv
  obtain ⟨ha, hP, hK⟩ := hv
  have hx := B.exec
  have hb := B.bytes
  have hr := B.returns
  have hts0 := atoms_spec (ws := (.code yX12_ends cX12_ends 3 (some .int) :: wsL_law)) B.pre
  have hts : ∀ w ∈ wsL_law, w.before args s = true := fun w h => hts0 w (List.mem_cons_of_mem _ h)
  have hown : s.vm.findClass RX12 = some m.cls := findClass_of_methodNamed B.named
  have hlocks := B.notSynchronized
  have hP : va_P D vwCl [(wO12 mm i_thrown m_s m_spare m_kept m_undone m_triedWay m_isKept i_undoMany m_tape i_length i_size i_p i_at i_token i_number i_letterMany i_fault i_faultAt m_letters i_isKnown m_choice m_row m_up m_low m_m m_bestUp m_bestLow m_replyUp m_replyLow m_worthUp m_worthLow m_bestWay i_seed m_told i_toldMany), (wI g m_s 0 193 sf)] s.heap := hP
  refine W.eq (g2 := entryFrame m ([.ref mm] : List Value).toArray 3) (by rw [ha]) ?_
  have hl := lv_entry ([.ref mm]) (n := 3) (Nat.le_of_ble_eq_true rfl)
  rw [lg_entry_eq]
  generalize (lg_sl ([.ref mm]) ++ List.replicate (3 - (lg_sl ([.ref mm])).length) Slot.unset).toArray = ls at hl ⊢
  have hl : lv_has ls 3 [(0, .ref mm)] := hl
  have gn9 := hG.r.1
  refine lv_iconst (v := 0) hx hb dX12_ends_0 (by decide) ?_
  refine lv_istore_n (lv' := [(1, .int 0), (0, .ref mm)]) hx hb dX12_ends_1 rfl hl (by decide) rfl (fun ls hl => ?_)
  refine lv_iconst (v := 0) hx hb dX12_ends_2 (by decide) ?_
  refine lv_istore_n (lv' := [(2, .int 0), (1, .int 0), (0, .ref mm)]) hx hb dX12_ends_3 rfl hl (by decide) rfl (fun ls hl => ?_)
  have lp_7496 : ∀ (n_7496 : Nat) (x_7494 : Int32) (x_7495 : Int32) (ls : Array Slot), (0 ≤ (x_7494 : Int32).toInt ∧ (x_7494 : Int32).toInt ≤ 4095) → (0 ≤ (x_7495 : Int32).toInt ∧ (x_7495 : Int32).toInt ≤ 12) → (∀ j : Nat, bt x_7494 j ↔ (j < x_7495.toInt.toNat ∧ (sf (1 + j)).toInt = 0)) → (x_7495.toInt ≤ (sf 0).toInt) → (12 - x_7495.toInt < (n_7496 : Int)) → lv_has ls 3 [(2, .int x_7495), (1, .int x_7494), (0, .ref mm)] → W p l e (headSpec (.code yX12_ends cX12_ends 3 (some .int) :: wsL_law) ({ frames := 1, cells := 0, slots := 0, locals := 22 })).room s m args below meth c s.heap [] 0 0 (MQ below (vp_Si (fun r => (0 ≤ (r : Int32).toInt ∧ (r : Int32).toInt ≤ 4095) ∧ (∀ j : Nat, bt r j ↔ (j < (sf 0).toInt.toNat ∧ (sf (1 + j)).toInt = 0)))) args s 0 0 (fun _ => False)) (F0 m 4 ls []) := by
    intro n_7496
    induction n_7496 with
    | zero =>
      intro x_7494 x_7495 ls h_x_7494 h_x_7495 hr7496_0 hr7496_1 hm_7496 hl
      exfalso; omega
    | succ n_7496 ih_7496 =>
      intro x_7494 x_7495 ls h_x_7494 h_x_7495 hr7496_0 hr7496_1 hm_7496 hl
      refine lv_iload_n hx hb dX12_ends_4 rfl (lv_at hl 0 rfl) ?_
      refine lv_aload_n hx hb dX12_ends_5 rfl (lv_at hl 2 rfl) ?_
      refine va_get (D := D) (ci := 12) (v := .ref m_s) (C := RX12) (T := TX12) (N := 35) hx hb hts inlX12 hown hK hP 0 rfl rfl 1 (by decide) (hts (Cond.fieldLink RX12 13 "ChanceRingsModel" "s" "[I") qw_73) (fun _ h9 => h9) rfl dX12_ends_6 ?_
      refine lv_iconst (v := 0) hx hb dX12_ends_9 (by decide) ?_
      refine va_iald hx hb hK hP 1 0 rfl rfl (tz_in (by decide +kernel)) dX12_ends_10 ?_
      refine lv_topi (fun v_7497 v_7497_e => ?_)
      have h_v_7497 : 0 ≤ (v_7497 : Int32).toInt ∧ (v_7497 : Int32).toInt ≤ 12 := by rw [v_7497_e]; exact gr_nodes hG.r (⟨by decide, by decide⟩ : 0 ≤ (0 : Int32).toInt ∧ (0 : Int32).toInt ≤ 0)
      have g_v_7497 : v_7497 = sf (0) := v_7497_e.trans (congrArg sf rfl)
      have gi_v_7497 := congrArg Int32.toInt g_v_7497
      refine lv_icmp_ge (tgt := 39) hx hb dX12_ends_11 (by decide) (fun c_7498 => ?_) (fun c_7498 => ?_)
      · skip
        have c_7498_i := Int32.le_iff_toInt_le.mp c_7498
        refine lv_iload_n hx hb dX12_ends_39 rfl (lv_at hl 1 rfl) ?_
        exact W.iret (v := x_7494) hx hb hr (fun t ht hW => ⟨x_7494, rfl, ⟨(tr_w h_x_7494 (by decide) (by decide)), (fun j => by rw [hr7496_0 j, show x_7495.toInt.toNat = (sf 0).toInt.toNat by (first | (clear h_i_undoMany h_i_length h_i_size h_i_p h_i_at h_i_token h_i_number h_i_letterMany h_i_faultAt h_i_isKnown h_i_toldMany; omega) | omega)])⟩, ht⟩) (fun _ h => nomatch h) dX12_ends_40
      · skip
        have c_7498_i := Int32.lt_iff_toInt_lt.mp (Int32.not_le.mp c_7498)
        have h_7499 : 0 ≤ (x_7495 : Int32).toInt ∧ (x_7495 : Int32).toInt ≤ 11 := nr_lt_l h_x_7495 h_v_7497 c_7498_i (by decide) (by decide)
        have h_7500 : 1 ≤ (v_7497 : Int32).toInt ∧ (v_7497 : Int32).toInt ≤ 12 := nr_lt_r h_x_7495 h_v_7497 c_7498_i (by decide) (by decide)
        refine lv_iload_n hx hb dX12_ends_14 rfl (lv_at hl 1 rfl) ?_
        refine lv_aload_n hx hb dX12_ends_15 rfl (lv_at hl 2 rfl) ?_
        refine lv_iload_n hx hb dX12_ends_16 rfl (lv_at hl 0 rfl) ?_
        refine lv_iconst (v := 0) hx hb dX12_ends_17 (by decide) ?_
        have hPc := hP.sub (ws' := [(wO12 mm i_thrown m_s m_spare m_kept m_undone m_triedWay m_isKept i_undoMany m_tape i_length i_size i_p i_at i_token i_number i_letterMany i_fault i_faultAt m_letters i_isKnown m_choice m_row m_up m_low m_m m_bestUp m_bestLow m_replyUp m_replyLow m_worthUp m_worthLow m_bestWay i_seed m_told i_toldMany), (wI g m_s 0 193 sf)]) [0, 1] rfl
        refine vp_callSi (va_Run.run (va_runV (As := [.int x_7495, .int 0]) (rest := [.int x_7494]) ⟨hx, hb, hml, hown, hts⟩ (c_X12_isKind l D g mm x_7495 0 i_thrown m_s m_spare m_kept m_undone m_triedWay m_isKept i_undoMany m_tape i_length i_size i_p i_at i_token i_number i_letterMany i_fault i_faultAt m_letters i_isKnown m_choice m_row m_up m_low m_m m_bestUp m_bestLow m_replyUp m_replyLow m_worthUp m_worthLow m_bestWay i_seed m_told i_toldMany sf (tr_w h_7499 (by decide) (by decide)) (tr_w h_i_undoMany (by decide) (by decide)) (tr_w h_i_length (by decide) (by decide)) (tr_w h_i_size (by decide) (by decide)) (tr_w h_i_p (by decide) (by decide)) (tr_w h_i_at (by decide) (by decide)) (tr_w h_i_token (by decide) (by decide)) (tr_w h_i_number (by decide) (by decide)) (tr_w h_i_letterMany (by decide) (by decide)) (tr_w h_i_faultAt (by decide) (by decide)) (tr_w h_i_isKnown (by decide) (by decide)) (tr_w h_i_toldMany (by decide) (by decide)) hG) (cwV 2 hts (tz_gV qw_94 qw_95 qw_96 qw_3 qw_97) rfl rfl rfl (by decide +kernel) ⟨Nat.le_of_ble_eq_true rfl, Nat.le_of_ble_eq_true rfl⟩) ⟨tz_blS, va_recv hK hPc (ci := 12) (q0 := 0) rfl rfl, tz_preS hPc hK⟩ rfl rfl hl.1 rfl (lv_room (Nat.le_of_ble_eq_true rfl)) dX12_ends_18 ⟨Nat.le_of_ble_eq_true rfl, Nat.le_of_ble_eq_true rfl⟩)) (fun r_7501 hw => ?_)
        have kk_0 := tk_0
        have hw_7502 : 0 ≤ (r_7501 : Int32).toInt ∧ (r_7501 : Int32).toInt ≤ 1 := hw.1
        have hw_7502_p0 : Hide (¬ (r_7501 : Int32).toInt = 0 → (sf (1 + (x_7495 : Int32).toInt.toNat)).toInt = (0 : Int32).toInt) := hw.2.1
        have hw_7502_p1 : Hide ((r_7501 : Int32).toInt = 0 → ¬ (sf (1 + (x_7495 : Int32).toInt.toNat)).toInt = (0 : Int32).toInt) := hw.2.2
        refine lv_if_eq (tgt := 30) hx hb dX12_ends_21 (by decide) (fun c_7503 => ?_) (fun c_7503 => ?_)
        · skip
          have c_7503_i : (r_7501 : Int32).toInt = (0 : Int32).toInt := congrArg Int32.toInt c_7503
          have hw_7502_p1_u := (hw_7502_p1).get (c_7503_i.trans tk_0)
          have h_7504 : 0 ≤ (r_7501 : Int32).toInt ∧ (r_7501 : Int32).toInt ≤ 0 := nr_eq_l hw_7502 (⟨by decide, by decide⟩ : 0 ≤ (0 : Int32).toInt ∧ (0 : Int32).toInt ≤ 0) c_7503_i (by decide) (by decide)
          refine lv_iconst (v := 0) hx hb dX12_ends_30 (by decide) ?_
          refine lv_ior hx hb dX12_ends_31 ?_
          refine lv_topi (fun v_7506 v_7506_e => ?_)
          have h_v_7506 : 0 ≤ (v_7506 : Int32).toInt ∧ (v_7506 : Int32).toInt ≤ 4095 := by rw [v_7506_e]; exact (tr_or12 (tr_w h_x_7494 (by decide) (by decide)) (⟨by decide, by decide⟩ : 0 ≤ (0 : Int32).toInt ∧ (0 : Int32).toInt ≤ 4095)).1
          have o_v_7506 : (x_7494 : Int32).toInt ≤ (v_7506 : Int32).toInt := by rw [v_7506_e]; exact (tr_or12 (tr_w h_x_7494 (by decide) (by decide)) (⟨by decide, by decide⟩ : 0 ≤ (0 : Int32).toInt ∧ (0 : Int32).toInt ≤ 4095)).2
          refine lv_istore_n (lv' := [(1, .int v_7506), (2, .int x_7495), (0, .ref mm)]) hx hb dX12_ends_32 rfl hl (by decide) rfl (fun ls hl => ?_)
          obtain ⟨v_7507, v_7507_e⟩ : ∃ y : Int32, y = x_7495 + Int32.ofInt 1 := ⟨_, rfl⟩
          have h_v_7507 : 1 ≤ (v_7507 : Int32).toInt ∧ (v_7507 : Int32).toInt ≤ 12 := by rw [v_7507_e]; exact tr_add h_7499 (⟨by decide, by decide⟩ : 1 ≤ (Int32.ofInt 1 : Int32).toInt ∧ (Int32.ofInt 1 : Int32).toInt ≤ 1) (by decide) (by decide) (by decide) (by decide)
          have q_v_7507 : v_7507.toInt = x_7495.toInt + 1 := by rw [v_7507_e]; exact tr_addE h_7499 (⟨by decide, by decide⟩ : 1 ≤ (Int32.ofInt 1 : Int32).toInt ∧ (Int32.ofInt 1 : Int32).toInt ≤ 1) (by decide) (by decide)
          refine lv_iinc (v := v_7507) (lv' := [(2, .int v_7507), (1, .int v_7506), (0, .ref mm)]) hx hb dX12_ends_33 hl (k := 1) rfl v_7507_e.symm (by decide) rfl (fun ls hl => ?_)
          refine lv_goto (tgt := 4) hx hb dX12_ends_36 (by decide) ?_
          exact ih_7496 v_7506 v_7507 ls (tr_w h_v_7506 (by decide) (by decide)) (tr_w h_v_7507 (by decide) (by decide)) (en_skip hr7496_0 v_7506_e (by have z_0 := tk_0; (first | (clear h_i_undoMany h_i_length h_i_size h_i_p h_i_at h_i_token h_i_number h_i_letterMany h_i_faultAt h_i_isKnown h_i_toldMany h_x_7494 hw_7502 c_7503_i h_7504; omega) | omega)) (by (first | (clear h_i_undoMany h_i_length h_i_size h_i_p h_i_at h_i_token h_i_number h_i_letterMany h_i_faultAt h_i_isKnown h_i_toldMany h_x_7494 hw_7502 c_7503_i h_7504; omega) | omega))) (by have z_0 := tk_0; (first | (clear h_i_undoMany h_i_length h_i_size h_i_p h_i_at h_i_token h_i_number h_i_letterMany h_i_faultAt h_i_isKnown h_i_toldMany h_x_7494 hw_7502 c_7503_i h_7504; omega) | omega)) (by (first | (clear h_i_undoMany h_i_length h_i_size h_i_p h_i_at h_i_token h_i_number h_i_letterMany h_i_faultAt h_i_isKnown h_i_toldMany h_x_7494 hw_7502 c_7503_i h_7504; omega) | omega)) (lv_sub hl [0, 1, 2] rfl)
        · skip
          have c_7503_i : ¬ (r_7501 : Int32).toInt = (0 : Int32).toInt := (fun q => c_7503 (Int32.toInt_inj.mp q))
          have hw_7502_p0_u := (hw_7502_p0).get (fun q => c_7503_i (q.trans tk_0.symm))
          have h_7505 : 1 ≤ (r_7501 : Int32).toInt ∧ (r_7501 : Int32).toInt ≤ 1 := nr_ne_l hw_7502 (⟨by decide, by decide⟩ : 0 ≤ (0 : Int32).toInt ∧ (0 : Int32).toInt ≤ 0) c_7503_i (by decide) (by decide)
          refine lv_iconst (v := 1) hx hb dX12_ends_24 (by decide) ?_
          refine lv_iload_n hx hb dX12_ends_25 rfl (lv_at hl 0 rfl) ?_
          refine lv_ishl hx hb dX12_ends_26 ?_
          refine lv_topi (fun v_7508 v_7508_e => ?_)
          have h_v_7508 : 0 ≤ (v_7508 : Int32).toInt ∧ (v_7508 : Int32).toInt ≤ 4095 := by rw [v_7508_e]; exact tr_shl12 (tr_w h_7499 (by decide) (by decide))
          refine lv_goto (tgt := 31) hx hb dX12_ends_27 (by decide) ?_
          refine lv_ior hx hb dX12_ends_31 ?_
          refine lv_topi (fun v_7509 v_7509_e => ?_)
          have h_v_7509 : 0 ≤ (v_7509 : Int32).toInt ∧ (v_7509 : Int32).toInt ≤ 4095 := by rw [v_7509_e]; exact (tr_or12 (tr_w h_x_7494 (by decide) (by decide)) (tr_w h_v_7508 (by decide) (by decide))).1
          have o_v_7509 : (x_7494 : Int32).toInt ≤ (v_7509 : Int32).toInt := by rw [v_7509_e]; exact (tr_or12 (tr_w h_x_7494 (by decide) (by decide)) (tr_w h_v_7508 (by decide) (by decide))).2
          refine lv_istore_n (lv' := [(1, .int v_7509), (2, .int x_7495), (0, .ref mm)]) hx hb dX12_ends_32 rfl hl (by decide) rfl (fun ls hl => ?_)
          obtain ⟨v_7510, v_7510_e⟩ : ∃ y : Int32, y = x_7495 + Int32.ofInt 1 := ⟨_, rfl⟩
          have h_v_7510 : 1 ≤ (v_7510 : Int32).toInt ∧ (v_7510 : Int32).toInt ≤ 12 := by rw [v_7510_e]; exact tr_add h_7499 (⟨by decide, by decide⟩ : 1 ≤ (Int32.ofInt 1 : Int32).toInt ∧ (Int32.ofInt 1 : Int32).toInt ≤ 1) (by decide) (by decide) (by decide) (by decide)
          have q_v_7510 : v_7510.toInt = x_7495.toInt + 1 := by rw [v_7510_e]; exact tr_addE h_7499 (⟨by decide, by decide⟩ : 1 ≤ (Int32.ofInt 1 : Int32).toInt ∧ (Int32.ofInt 1 : Int32).toInt ≤ 1) (by decide) (by decide)
          refine lv_iinc (v := v_7510) (lv' := [(2, .int v_7510), (1, .int v_7509), (0, .ref mm)]) hx hb dX12_ends_33 hl (k := 1) rfl v_7510_e.symm (by decide) rfl (fun ls hl => ?_)
          refine lv_goto (tgt := 4) hx hb dX12_ends_36 (by decide) ?_
          exact ih_7496 v_7509 v_7510 ls (tr_w h_v_7509 (by decide) (by decide)) (tr_w h_v_7510 (by decide) (by decide)) (en_add (t := x_7495) hr7496_0 h_x_7494 h_7499 v_7508_e v_7509_e (by (first | (clear h_i_undoMany h_i_length h_i_size h_i_p h_i_at h_i_token h_i_number h_i_letterMany h_i_faultAt h_i_isKnown h_i_toldMany hw_7502 c_7503_i h_7505 h_v_7508; omega) | omega)) (by have z_0 := tk_0; (first | (clear h_i_undoMany h_i_length h_i_size h_i_p h_i_at h_i_token h_i_number h_i_letterMany h_i_faultAt h_i_isKnown h_i_toldMany hw_7502 c_7503_i h_7505 h_v_7508; omega) | omega)) (by (first | (clear h_i_undoMany h_i_length h_i_size h_i_p h_i_at h_i_token h_i_number h_i_letterMany h_i_faultAt h_i_isKnown h_i_toldMany hw_7502 c_7503_i h_7505 h_v_7508; omega) | omega))) (by have z_0 := tk_0; (first | (clear h_i_undoMany h_i_length h_i_size h_i_p h_i_at h_i_token h_i_number h_i_letterMany h_i_faultAt h_i_isKnown h_i_toldMany hw_7502 c_7503_i h_7505 h_v_7508; omega) | omega)) (by (first | (clear h_i_undoMany h_i_length h_i_size h_i_p h_i_at h_i_token h_i_number h_i_letterMany h_i_faultAt h_i_isKnown h_i_toldMany hw_7502 c_7503_i h_7505 h_v_7508; omega) | omega)) (lv_sub hl [0, 1, 2] rfl)
  exact lp_7496 13 0 0 ls (⟨by decide, by decide⟩ : 0 ≤ (0 : Int32).toInt ∧ (0 : Int32).toInt ≤ 4095) (⟨by decide, by decide⟩ : 0 ≤ (0 : Int32).toInt ∧ (0 : Int32).toInt ≤ 12) en_zero (by have z_0 := tk_0; (first | (clear h_i_undoMany h_i_length h_i_size h_i_p h_i_at h_i_token h_i_number h_i_letterMany h_i_faultAt h_i_isKnown h_i_toldMany; omega) | omega)) (by decide) (lv_sub hl [0, 1, 2] rfl)
set_option maxHeartbeats 4000000 in
set_option maxRecDepth 100000 in
theorem c_X12_comes (l : Launch) (D : va_G) (g : Nat → ClassId) (mm : Nat) (p0 : Int32) (i_thrown : Int32) (m_s : Nat) (m_spare : Nat) (m_kept : Nat) (m_undone : Nat) (m_triedWay : Nat) (m_isKept : Nat) (i_undoMany : Int32) (m_tape : Nat) (i_length : Int32) (i_size : Int32) (i_p : Int32) (i_at : Int32) (i_token : Int32) (i_number : Int32) (i_letterMany : Int32) (i_fault : Int32) (i_faultAt : Int32) (m_letters : Nat) (i_isKnown : Int32) (m_choice : Nat) (m_row : Nat) (m_up : Nat) (m_low : Nat) (m_m : Nat) (m_bestUp : Nat) (m_bestLow : Nat) (m_replyUp : Nat) (m_replyLow : Nat) (m_worthUp : Nat) (m_worthLow : Nat) (m_bestWay : Nat) (i_seed : Int32) (m_told : Nat) (i_toldMany : Int32) (sf : Nat → Int32) (chf : Nat → Int32) (h_p0 : 0 ≤ (p0 : Int32).toInt ∧ (p0 : Int32).toInt ≤ 4095) (h_i_undoMany : 0 ≤ (i_undoMany : Int32).toInt ∧ (i_undoMany : Int32).toInt ≤ 8) (h_i_length : 0 ≤ (i_length : Int32).toInt ∧ (i_length : Int32).toInt ≤ 440) (h_i_size : 0 ≤ (i_size : Int32).toInt ∧ (i_size : Int32).toInt ≤ 440) (h_i_p : 0 ≤ (i_p : Int32).toInt ∧ (i_p : Int32).toInt ≤ 440) (h_i_at : 0 ≤ (i_at : Int32).toInt ∧ (i_at : Int32).toInt ≤ 440) (h_i_token : 0 ≤ (i_token : Int32).toInt ∧ (i_token : Int32).toInt ≤ 4) (h_i_number : 0 ≤ (i_number : Int32).toInt ∧ (i_number : Int32).toInt ≤ 814) (h_i_letterMany : (-440) ≤ (i_letterMany : Int32).toInt ∧ (i_letterMany : Int32).toInt ≤ 440) (h_i_faultAt : 0 ≤ (i_faultAt : Int32).toInt ∧ (i_faultAt : Int32).toInt ≤ 440) (h_i_isKnown : 0 ≤ (i_isKnown : Int32).toInt ∧ (i_isKnown : Int32).toInt ≤ 1) (h_i_toldMany : 0 ≤ (i_toldMany : Int32).toInt ∧ (i_toldMany : Int32).toInt ≤ 900) (h_chf : ∀ j : Nat, 0 ≤ (chf j).toInt ∧ (chf j).toInt ≤ 2) (hG : GS sf) : Met l yX12_comes (.code yX12_comes cX12_comes 5 (some .int) :: wsL_law) ({ frames := 2, cells := 0, slots := 0, locals := 45 }) (va_Pc [.ref mm, .int p0] (fun U => va_P D vwCl [(wO12 mm i_thrown m_s m_spare m_kept m_undone m_triedWay m_isKept i_undoMany m_tape i_length i_size i_p i_at i_token i_number i_letterMany i_fault i_faultAt m_letters i_isKnown m_choice m_row m_up m_low m_m m_bestUp m_bestLow m_replyUp m_replyLow m_worthUp m_worthLow m_bestWay i_seed m_told i_toldMany), (wI g m_s 0 193 sf), (wI g m_choice 0 12 chf)] U.heap ∧ va_K D vwCl (TY g) U)) (vp_Si (fun r => (0 ≤ (r : Int32).toInt ∧ (r : Int32).toInt ≤ 4095) ∧ (LF sf chf p0 r ∧ CL sf chf (bt r)))) 0 0 (fun _ => False) := by
  refine Met.ofW (cc := cX12_comes) (maxL := 5) (ret := (some .int)) (by decide) rfl ?_
  intro p e s m args below meth c s₁ B hml hv
  obtain ⟨ha, hP, hK⟩ := hv
  have hx := B.exec
  have hb := B.bytes
  have hr := B.returns
  have hts0 := atoms_spec (ws := (.code yX12_comes cX12_comes 5 (some .int) :: wsL_law)) B.pre
  have hts : ∀ w ∈ wsL_law, w.before args s = true := fun w h => hts0 w (List.mem_cons_of_mem _ h)
  have hown : s.vm.findClass RX12 = some m.cls := findClass_of_methodNamed B.named
  have hlocks := B.notSynchronized
  have hP : va_P D vwCl [(wO12 mm i_thrown m_s m_spare m_kept m_undone m_triedWay m_isKept i_undoMany m_tape i_length i_size i_p i_at i_token i_number i_letterMany i_fault i_faultAt m_letters i_isKnown m_choice m_row m_up m_low m_m m_bestUp m_bestLow m_replyUp m_replyLow m_worthUp m_worthLow m_bestWay i_seed m_told i_toldMany), (wI g m_s 0 193 sf), (wI g m_choice 0 12 chf)] s.heap := hP
  refine W.eq (g2 := entryFrame m ([.ref mm, .int p0] : List Value).toArray 5) (by rw [ha]) ?_
  have hl := lv_entry ([.ref mm, .int p0]) (n := 5) (Nat.le_of_ble_eq_true rfl)
  rw [lg_entry_eq]
  generalize (lg_sl ([.ref mm, .int p0]) ++ List.replicate (5 - (lg_sl ([.ref mm, .int p0])).length) Slot.unset).toArray = ls at hl ⊢
  have hl : lv_has ls 5 [(0, .ref mm), (1, .int p0)] := hl
  have gn9 := hG.r.1
  refine lv_iload_n hx hb dX12_comes_0 rfl (lv_at hl 1 rfl) ?_
  refine lv_istore_n (lv' := [(2, .int p0), (0, .ref mm), (1, .int p0)]) hx hb dX12_comes_1 rfl hl (by decide) rfl (fun ls hl => ?_)
  refine lv_iconst (v := 0) hx hb dX12_comes_2 (by decide) ?_
  refine lv_istore_n (lv' := [(3, .int 0), (2, .int p0), (0, .ref mm), (1, .int p0)]) hx hb dX12_comes_3 rfl hl (by decide) rfl (fun ls hl => ?_)
  have lp_7558 : ∀ (n_7558 : Nat) (x_7556 : Int32) (x_7557 : Int32) (ls : Array Slot), (0 ≤ (x_7556 : Int32).toInt ∧ (x_7556 : Int32).toInt ≤ 4095) → (0 ≤ (x_7557 : Int32).toInt ∧ (x_7557 : Int32).toInt ≤ 4095) → (LF sf chf p0 x_7556) → ((x_7557 : Int32) = x_7556 → CL sf chf (bt x_7556)) → (x_7557.toInt ≤ x_7556.toInt) → (4095 - x_7557.toInt < (n_7558 : Int)) → lv_has ls 5 [(3, .int x_7557), (2, .int x_7556), (0, .ref mm), (1, .int p0)] → W p l e (headSpec (.code yX12_comes cX12_comes 5 (some .int) :: wsL_law) ({ frames := 2, cells := 0, slots := 0, locals := 45 })).room s m args below meth c s.heap [] 0 0 (MQ below (vp_Si (fun r => (0 ≤ (r : Int32).toInt ∧ (r : Int32).toInt ≤ 4095) ∧ (LF sf chf p0 r ∧ CL sf chf (bt r)))) args s 0 0 (fun _ => False)) (F0 m 4 ls []) := by
    intro n_7558
    induction n_7558 with
    | zero =>
      intro x_7556 x_7557 ls h_x_7556 h_x_7557 hr7558_0 hr7558_1 hr7558_2 hm_7558 hl
      exfalso; omega
    | succ n_7558 ih_7558 =>
      intro x_7556 x_7557 ls h_x_7556 h_x_7557 hr7558_0 hr7558_1 hr7558_2 hm_7558 hl
      refine lv_iload_n hx hb dX12_comes_4 rfl (lv_at hl 0 rfl) ?_
      refine lv_iload_n hx hb dX12_comes_5 rfl (lv_at hl 1 rfl) ?_
      refine lv_icmp_eq (tgt := 62) hx hb dX12_comes_6 (by decide) (fun c_7559 => ?_) (fun c_7559 => ?_)
      · skip
        have c_7559_i : (x_7557 : Int32).toInt = (x_7556 : Int32).toInt := congrArg Int32.toInt c_7559
        refine lv_iload_n hx hb dX12_comes_62 rfl (lv_at hl 1 rfl) ?_
        exact W.iret (v := x_7556) hx hb hr (fun t ht hW => ⟨x_7556, rfl, ⟨(tr_w h_x_7556 (by decide) (by decide)), ⟨hr7558_0, hr7558_1 c_7559⟩⟩, ht⟩) (fun _ h => nomatch h) dX12_comes_63
      · skip
        have c_7559_i : ¬ (x_7557 : Int32).toInt = (x_7556 : Int32).toInt := (fun q => c_7559 (Int32.toInt_inj.mp q))
        refine lv_iload_n hx hb dX12_comes_9 rfl (lv_at hl 1 rfl) ?_
        refine lv_istore_n (lv' := [(3, .int x_7556), (2, .int x_7556), (0, .ref mm), (1, .int p0)]) hx hb dX12_comes_10 rfl hl (by decide) rfl (fun ls hl => ?_)
        refine lv_iconst (v := 0) hx hb dX12_comes_11 (by decide) ?_
        refine lv_istore (lv' := [(4, .int 0), (3, .int x_7556), (2, .int x_7556), (0, .ref mm), (1, .int p0)]) hx hb dX12_comes_12 hl (by decide) rfl (fun ls hl => ?_)
        have lp_7583 : ∀ (n_7583 : Nat) (x_7581 : Int32) (x_7582 : Int32) (ls : Array Slot), (0 ≤ (x_7581 : Int32).toInt ∧ (x_7581 : Int32).toInt ≤ 4095) → (0 ≤ (x_7582 : Int32).toInt ∧ (x_7582 : Int32).toInt ≤ 12) → (LF sf chf p0 x_7581) → (x_7581 = x_7556 → CLm sf chf x_7582.toInt.toNat (bt x_7556)) → (x_7556.toInt ≤ x_7581.toInt) → (x_7582.toInt ≤ (sf 0).toInt) → (12 - x_7582.toInt < (n_7583 : Int)) → lv_has ls 5 [(4, .int x_7582), (3, .int x_7556), (2, .int x_7581), (0, .ref mm), (1, .int p0)] → W p l e (headSpec (.code yX12_comes cX12_comes 5 (some .int) :: wsL_law) ({ frames := 2, cells := 0, slots := 0, locals := 45 })).room s m args below meth c s.heap [] 0 0 (MQ below (vp_Si (fun r => (0 ≤ (r : Int32).toInt ∧ (r : Int32).toInt ≤ 4095) ∧ (LF sf chf p0 r ∧ CL sf chf (bt r)))) args s 0 0 (fun _ => False)) (F0 m 14 ls []) := by
          intro n_7583
          induction n_7583 with
          | zero =>
            intro x_7581 x_7582 ls h_x_7581 h_x_7582 hr7583_0 hr7583_1 hr7583_2 hr7583_3 hm_7583 hl
            exfalso; omega
          | succ n_7583 ih_7583 =>
            intro x_7581 x_7582 ls h_x_7581 h_x_7582 hr7583_0 hr7583_1 hr7583_2 hr7583_3 hm_7583 hl
            refine lv_iload hx hb dX12_comes_14 (lv_at hl 0 rfl) ?_
            refine lv_aload_n hx hb dX12_comes_16 rfl (lv_at hl 3 rfl) ?_
            refine va_get (D := D) (ci := 12) (v := .ref m_s) (C := RX12) (T := TX12) (N := 35) hx hb hts inlX12 hown hK hP 0 rfl rfl 1 (by decide) (hts (Cond.fieldLink RX12 13 "ChanceRingsModel" "s" "[I") qw_73) (fun _ h9 => h9) rfl dX12_comes_17 ?_
            refine lv_iconst (v := 0) hx hb dX12_comes_20 (by decide) ?_
            refine va_iald hx hb hK hP 1 0 rfl rfl (tz_in (by decide +kernel)) dX12_comes_21 ?_
            refine lv_topi (fun v_7584 v_7584_e => ?_)
            have h_v_7584 : 0 ≤ (v_7584 : Int32).toInt ∧ (v_7584 : Int32).toInt ≤ 12 := by rw [v_7584_e]; exact gr_nodes hG.r (⟨by decide, by decide⟩ : 0 ≤ (0 : Int32).toInt ∧ (0 : Int32).toInt ≤ 0)
            have g_v_7584 : v_7584 = sf (0) := v_7584_e.trans (congrArg sf rfl)
            have gi_v_7584 := congrArg Int32.toInt g_v_7584
            refine lv_icmp_ge (tgt := 59) hx hb dX12_comes_22 (by decide) (fun c_7585 => ?_) (fun c_7585 => ?_)
            · skip
              have c_7585_i := Int32.le_iff_toInt_le.mp c_7585
              refine lv_goto (tgt := 4) hx hb dX12_comes_59 (by decide) ?_
              exact ih_7558 x_7581 x_7556 ls (tr_w h_x_7581 (by decide) (by decide)) (tr_w h_x_7556 (by decide) (by decide)) hr7583_0 (CLm_done (m := x_7582.toInt.toNat) hr7583_1 (by (first | (clear h_p0 h_i_undoMany h_i_length h_i_size h_i_p h_i_at h_i_token h_i_number h_i_letterMany h_i_faultAt h_i_isKnown h_i_toldMany; omega) | omega))) (by have z_0 := tk_0; (first | (clear h_p0 h_i_undoMany h_i_length h_i_size h_i_p h_i_at h_i_token h_i_number h_i_letterMany h_i_faultAt h_i_isKnown h_i_toldMany; omega) | omega)) (by (first | (clear h_p0 h_i_undoMany h_i_length h_i_size h_i_p h_i_at h_i_token h_i_number h_i_letterMany h_i_faultAt h_i_isKnown h_i_toldMany; omega) | omega)) (lv_sub hl [1, 2, 3, 4] rfl)
            · skip
              have c_7585_i := Int32.lt_iff_toInt_lt.mp (Int32.not_le.mp c_7585)
              have h_7586 : 0 ≤ (x_7582 : Int32).toInt ∧ (x_7582 : Int32).toInt ≤ 11 := nr_lt_l h_x_7582 h_v_7584 c_7585_i (by decide) (by decide)
              have h_7587 : 1 ≤ (v_7584 : Int32).toInt ∧ (v_7584 : Int32).toInt ≤ 12 := nr_lt_r h_x_7582 h_v_7584 c_7585_i (by decide) (by decide)
              refine lv_aload_n hx hb dX12_comes_25 rfl (lv_at hl 3 rfl) ?_
              refine lv_iload hx hb dX12_comes_26 (lv_at hl 0 rfl) ?_
              refine lv_iconst (v := 0) hx hb dX12_comes_28 (by decide) ?_
              have hPc := hP.sub (ws' := [(wO12 mm i_thrown m_s m_spare m_kept m_undone m_triedWay m_isKept i_undoMany m_tape i_length i_size i_p i_at i_token i_number i_letterMany i_fault i_faultAt m_letters i_isKnown m_choice m_row m_up m_low m_m m_bestUp m_bestLow m_replyUp m_replyLow m_worthUp m_worthLow m_bestWay i_seed m_told i_toldMany), (wI g m_s 0 193 sf)]) [0, 1] rfl
              refine vp_callSi (va_Run.run (va_runV (As := [.int x_7582, .int 0]) (rest := []) ⟨hx, hb, hml, hown, hts⟩ (c_X12_isKind l D g mm x_7582 0 i_thrown m_s m_spare m_kept m_undone m_triedWay m_isKept i_undoMany m_tape i_length i_size i_p i_at i_token i_number i_letterMany i_fault i_faultAt m_letters i_isKnown m_choice m_row m_up m_low m_m m_bestUp m_bestLow m_replyUp m_replyLow m_worthUp m_worthLow m_bestWay i_seed m_told i_toldMany sf (tr_w h_7586 (by decide) (by decide)) (tr_w h_i_undoMany (by decide) (by decide)) (tr_w h_i_length (by decide) (by decide)) (tr_w h_i_size (by decide) (by decide)) (tr_w h_i_p (by decide) (by decide)) (tr_w h_i_at (by decide) (by decide)) (tr_w h_i_token (by decide) (by decide)) (tr_w h_i_number (by decide) (by decide)) (tr_w h_i_letterMany (by decide) (by decide)) (tr_w h_i_faultAt (by decide) (by decide)) (tr_w h_i_isKnown (by decide) (by decide)) (tr_w h_i_toldMany (by decide) (by decide)) hG) (cwV 2 hts (tz_gV qw_94 qw_95 qw_96 qw_3 qw_97) rfl rfl rfl (by decide +kernel) ⟨Nat.le_of_ble_eq_true rfl, Nat.le_of_ble_eq_true rfl⟩) ⟨tz_blS, va_recv hK hPc (ci := 12) (q0 := 0) rfl rfl, tz_preS hPc hK⟩ rfl rfl hl.1 rfl (lv_room (Nat.le_of_ble_eq_true rfl)) dX12_comes_29 ⟨Nat.le_of_ble_eq_true rfl, Nat.le_of_ble_eq_true rfl⟩)) (fun r_7588 hw => ?_)
              have kk_0 := tk_0
              have hw_7589 : 0 ≤ (r_7588 : Int32).toInt ∧ (r_7588 : Int32).toInt ≤ 1 := hw.1
              have hw_7589_p0 : Hide (¬ (r_7588 : Int32).toInt = 0 → (sf (1 + (x_7582 : Int32).toInt.toNat)).toInt = (0 : Int32).toInt) := hw.2.1
              have hw_7589_p1 : Hide ((r_7588 : Int32).toInt = 0 → ¬ (sf (1 + (x_7582 : Int32).toInt.toNat)).toInt = (0 : Int32).toInt) := hw.2.2
              refine lv_if_ne (tgt := 53) hx hb dX12_comes_32 (by decide) (fun c_7590 => ?_) (fun c_7590 => ?_)
              · skip
                have c_7590_i : ¬ (r_7588 : Int32).toInt = (0 : Int32).toInt := (fun q => c_7590 (Int32.toInt_inj.mp q))
                have hw_7589_p0_u := (hw_7589_p0).get (fun q => c_7590_i (q.trans tk_0.symm))
                have h_7591 : 1 ≤ (r_7588 : Int32).toInt ∧ (r_7588 : Int32).toInt ≤ 1 := nr_ne_l hw_7589 (⟨by decide, by decide⟩ : 0 ≤ (0 : Int32).toInt ∧ (0 : Int32).toInt ≤ 0) c_7590_i (by decide) (by decide)
                obtain ⟨v_7593, v_7593_e⟩ : ∃ y : Int32, y = x_7582 + Int32.ofInt 1 := ⟨_, rfl⟩
                have h_v_7593 : 1 ≤ (v_7593 : Int32).toInt ∧ (v_7593 : Int32).toInt ≤ 12 := by rw [v_7593_e]; exact tr_add h_7586 (⟨by decide, by decide⟩ : 1 ≤ (Int32.ofInt 1 : Int32).toInt ∧ (Int32.ofInt 1 : Int32).toInt ≤ 1) (by decide) (by decide) (by decide) (by decide)
                have q_v_7593 : v_7593.toInt = x_7582.toInt + 1 := by rw [v_7593_e]; exact tr_addE h_7586 (⟨by decide, by decide⟩ : 1 ≤ (Int32.ofInt 1 : Int32).toInt ∧ (Int32.ofInt 1 : Int32).toInt ≤ 1) (by decide) (by decide)
                refine lv_iinc (v := v_7593) (lv' := [(4, .int v_7593), (3, .int x_7556), (2, .int x_7581), (0, .ref mm), (1, .int p0)]) hx hb dX12_comes_53 hl (k := 0) rfl v_7593_e.symm (by decide) rfl (fun ls hl => ?_)
                refine lv_goto (tgt := 14) hx hb dX12_comes_56 (by decide) ?_
                exact ih_7583 x_7581 v_7593 ls (tr_w h_x_7581 (by decide) (by decide)) (tr_w h_v_7593 (by decide) (by decide)) hr7583_0 (CLm_end hr7583_1 (by have z_0 := tk_0; (first | (clear h_p0 h_i_undoMany h_i_length h_i_size h_i_p h_i_at h_i_token h_i_number h_i_letterMany h_i_faultAt h_i_isKnown h_i_toldMany h_x_7556 h_x_7557 c_7559_i hw_7589 c_7590_i h_7591; omega) | omega)) (by (first | (clear h_p0 h_i_undoMany h_i_length h_i_size h_i_p h_i_at h_i_token h_i_number h_i_letterMany h_i_faultAt h_i_isKnown h_i_toldMany h_x_7556 h_x_7557 c_7559_i hw_7589 c_7590_i h_7591; omega) | omega))) (by have z_0 := tk_0; (first | (clear h_p0 h_i_undoMany h_i_length h_i_size h_i_p h_i_at h_i_token h_i_number h_i_letterMany h_i_faultAt h_i_isKnown h_i_toldMany h_x_7556 h_x_7557 c_7559_i hw_7589 c_7590_i h_7591; omega) | omega)) (by have z_0 := tk_0; (first | (clear h_p0 h_i_undoMany h_i_length h_i_size h_i_p h_i_at h_i_token h_i_number h_i_letterMany h_i_faultAt h_i_isKnown h_i_toldMany h_x_7556 h_x_7557 c_7559_i hw_7589 c_7590_i h_7591; omega) | omega)) (by (first | (clear h_p0 h_i_undoMany h_i_length h_i_size h_i_p h_i_at h_i_token h_i_number h_i_letterMany h_i_faultAt h_i_isKnown h_i_toldMany h_x_7556 h_x_7557 c_7559_i hw_7589 c_7590_i h_7591; omega) | omega)) (lv_sub hl [0, 1, 2, 3, 4] rfl)
              · skip
                have c_7590_i : (r_7588 : Int32).toInt = (0 : Int32).toInt := congrArg Int32.toInt c_7590
                have hw_7589_p1_u := (hw_7589_p1).get (c_7590_i.trans tk_0)
                have h_7592 : 0 ≤ (r_7588 : Int32).toInt ∧ (r_7588 : Int32).toInt ≤ 0 := nr_eq_l hw_7589 (⟨by decide, by decide⟩ : 0 ≤ (0 : Int32).toInt ∧ (0 : Int32).toInt ≤ 0) c_7590_i (by decide) (by decide)
                refine lv_aload_n hx hb dX12_comes_35 rfl (lv_at hl 3 rfl) ?_
                refine lv_iload hx hb dX12_comes_36 (lv_at hl 0 rfl) ?_
                have hPc := hP.sub (ws' := [(wO12 mm i_thrown m_s m_spare m_kept m_undone m_triedWay m_isKept i_undoMany m_tape i_length i_size i_p i_at i_token i_number i_letterMany i_fault i_faultAt m_letters i_isKnown m_choice m_row m_up m_low m_m m_bestUp m_bestLow m_replyUp m_replyLow m_worthUp m_worthLow m_bestWay i_seed m_told i_toldMany), (wI g m_s 0 193 sf), (wI g m_choice 0 12 chf)]) [0, 1, 2] rfl
                refine vp_callSi (va_Run.run (va_runV (As := [.int x_7582]) (rest := []) ⟨hx, hb, hml, hown, hts⟩ (c_X12_onBits l D g mm x_7582 i_thrown m_s m_spare m_kept m_undone m_triedWay m_isKept i_undoMany m_tape i_length i_size i_p i_at i_token i_number i_letterMany i_fault i_faultAt m_letters i_isKnown m_choice m_row m_up m_low m_m m_bestUp m_bestLow m_replyUp m_replyLow m_worthUp m_worthLow m_bestWay i_seed m_told i_toldMany sf chf (tr_w h_7586 (by decide) (by decide)) (tr_w h_i_undoMany (by decide) (by decide)) (tr_w h_i_length (by decide) (by decide)) (tr_w h_i_size (by decide) (by decide)) (tr_w h_i_p (by decide) (by decide)) (tr_w h_i_at (by decide) (by decide)) (tr_w h_i_token (by decide) (by decide)) (tr_w h_i_number (by decide) (by decide)) (tr_w h_i_letterMany (by decide) (by decide)) (tr_w h_i_faultAt (by decide) (by decide)) (tr_w h_i_isKnown (by decide) (by decide)) (tr_w h_i_toldMany (by decide) (by decide)) (tr_wa h_chf (by decide) (by decide)) hG) (cwV 1 hts (tz_gV qw_126 qw_127 qw_128 qw_3 qw_129) rfl rfl rfl (by decide +kernel) ⟨Nat.le_of_ble_eq_true rfl, Nat.le_of_ble_eq_true rfl⟩) ⟨tz_blS, va_recv hK hPc (ci := 12) (q0 := 0) rfl rfl, tz_preS hPc hK⟩ rfl rfl hl.1 rfl (lv_room (Nat.le_of_ble_eq_true rfl)) dX12_comes_38 ⟨Nat.le_of_ble_eq_true rfl, Nat.le_of_ble_eq_true rfl⟩)) (fun r_7594 hw => ?_)
                have hw_7595 : 0 ≤ (r_7594 : Int32).toInt ∧ (r_7594 : Int32).toInt ≤ 4095 := hw.1
                have hw_7595_p0 : ∀ j : Nat, bt r_7594 j ↔ ON sf chf (x_7582 : Int32).toInt.toNat j := hw.2
                refine lv_iload_n hx hb dX12_comes_41 rfl (lv_at hl 2 rfl) ?_
                refine lv_iand hx hb dX12_comes_42 ?_
                refine lv_topi (fun v_7596 v_7596_e => ?_)
                refine lv_if_eq (tgt := 53) hx hb dX12_comes_43 (by decide) (fun c_7597 => ?_) (fun c_7597 => ?_)
                · skip
                  have c_7597_i : (v_7596 : Int32).toInt = (0 : Int32).toInt := congrArg Int32.toInt c_7597
                  have h_7598 : 0 ≤ (v_7596 : Int32).toInt ∧ (v_7596 : Int32).toInt ≤ 0 := by rw [c_7597]; exact ⟨by decide, by decide⟩
                  obtain ⟨v_7599, v_7599_e⟩ : ∃ y : Int32, y = x_7582 + Int32.ofInt 1 := ⟨_, rfl⟩
                  have h_v_7599 : 1 ≤ (v_7599 : Int32).toInt ∧ (v_7599 : Int32).toInt ≤ 12 := by rw [v_7599_e]; exact tr_add h_7586 (⟨by decide, by decide⟩ : 1 ≤ (Int32.ofInt 1 : Int32).toInt ∧ (Int32.ofInt 1 : Int32).toInt ≤ 1) (by decide) (by decide) (by decide) (by decide)
                  have q_v_7599 : v_7599.toInt = x_7582.toInt + 1 := by rw [v_7599_e]; exact tr_addE h_7586 (⟨by decide, by decide⟩ : 1 ≤ (Int32.ofInt 1 : Int32).toInt ∧ (Int32.ofInt 1 : Int32).toInt ≤ 1) (by decide) (by decide)
                  refine lv_iinc (v := v_7599) (lv' := [(4, .int v_7599), (3, .int x_7556), (2, .int x_7581), (0, .ref mm), (1, .int p0)]) hx hb dX12_comes_53 hl (k := 0) rfl v_7599_e.symm (by decide) rfl (fun ls hl => ?_)
                  refine lv_goto (tgt := 14) hx hb dX12_comes_56 (by decide) ?_
                  exact ih_7583 x_7581 v_7599 ls (tr_w h_x_7581 (by decide) (by decide)) (tr_w h_v_7599 (by decide) (by decide)) hr7583_0 (CLm_not hr7583_1 h_x_7581 hw_7595_p0 hw_7595 (by rw [← v_7596_e]; exact c_7597) (by (first | (clear h_p0 h_i_undoMany h_i_length h_i_size h_i_p h_i_at h_i_token h_i_number h_i_letterMany h_i_faultAt h_i_isKnown h_i_toldMany h_x_7556 h_x_7557 c_7559_i hw_7589 c_7590_i h_7592 c_7597_i h_7598; omega) | omega))) (by have z_0 := tk_0; (first | (clear h_p0 h_i_undoMany h_i_length h_i_size h_i_p h_i_at h_i_token h_i_number h_i_letterMany h_i_faultAt h_i_isKnown h_i_toldMany h_x_7556 h_x_7557 c_7559_i hw_7589 c_7590_i h_7592 c_7597_i h_7598; omega) | omega)) (by have z_0 := tk_0; (first | (clear h_p0 h_i_undoMany h_i_length h_i_size h_i_p h_i_at h_i_token h_i_number h_i_letterMany h_i_faultAt h_i_isKnown h_i_toldMany h_x_7556 h_x_7557 c_7559_i hw_7589 c_7590_i h_7592 c_7597_i h_7598; omega) | omega)) (by (first | (clear h_p0 h_i_undoMany h_i_length h_i_size h_i_p h_i_at h_i_token h_i_number h_i_letterMany h_i_faultAt h_i_isKnown h_i_toldMany h_x_7556 h_x_7557 c_7559_i hw_7589 c_7590_i h_7592 c_7597_i h_7598; omega) | omega)) (lv_sub hl [0, 1, 2, 3, 4] rfl)
                · skip
                  have c_7597_i : ¬ (v_7596 : Int32).toInt = (0 : Int32).toInt := (fun q => c_7597 (Int32.toInt_inj.mp q))
                  refine lv_iload_n hx hb dX12_comes_46 rfl (lv_at hl 2 rfl) ?_
                  refine lv_iconst (v := 1) hx hb dX12_comes_47 (by decide) ?_
                  refine lv_iload hx hb dX12_comes_48 (lv_at hl 0 rfl) ?_
                  refine lv_ishl hx hb dX12_comes_50 ?_
                  refine lv_topi (fun v_7600 v_7600_e => ?_)
                  have h_v_7600 : 0 ≤ (v_7600 : Int32).toInt ∧ (v_7600 : Int32).toInt ≤ 4095 := by rw [v_7600_e]; exact tr_shl12 (tr_w h_7586 (by decide) (by decide))
                  refine lv_ior hx hb dX12_comes_51 ?_
                  refine lv_topi (fun v_7601 v_7601_e => ?_)
                  have h_v_7601 : 0 ≤ (v_7601 : Int32).toInt ∧ (v_7601 : Int32).toInt ≤ 4095 := by rw [v_7601_e]; exact (tr_or12 (tr_w h_x_7581 (by decide) (by decide)) (tr_w h_v_7600 (by decide) (by decide))).1
                  have o_v_7601 : (x_7581 : Int32).toInt ≤ (v_7601 : Int32).toInt := by rw [v_7601_e]; exact (tr_or12 (tr_w h_x_7581 (by decide) (by decide)) (tr_w h_v_7600 (by decide) (by decide))).2
                  refine lv_istore_n (lv' := [(2, .int v_7601), (4, .int x_7582), (3, .int x_7556), (0, .ref mm), (1, .int p0)]) hx hb dX12_comes_52 rfl hl (by decide) rfl (fun ls hl => ?_)
                  obtain ⟨v_7602, v_7602_e⟩ : ∃ y : Int32, y = x_7582 + Int32.ofInt 1 := ⟨_, rfl⟩
                  have h_v_7602 : 1 ≤ (v_7602 : Int32).toInt ∧ (v_7602 : Int32).toInt ≤ 12 := by rw [v_7602_e]; exact tr_add h_7586 (⟨by decide, by decide⟩ : 1 ≤ (Int32.ofInt 1 : Int32).toInt ∧ (Int32.ofInt 1 : Int32).toInt ≤ 1) (by decide) (by decide) (by decide) (by decide)
                  have q_v_7602 : v_7602.toInt = x_7582.toInt + 1 := by rw [v_7602_e]; exact tr_addE h_7586 (⟨by decide, by decide⟩ : 1 ≤ (Int32.ofInt 1 : Int32).toInt ∧ (Int32.ofInt 1 : Int32).toInt ≤ 1) (by decide) (by decide)
                  refine lv_iinc (v := v_7602) (lv' := [(4, .int v_7602), (2, .int v_7601), (3, .int x_7556), (0, .ref mm), (1, .int p0)]) hx hb dX12_comes_53 hl (k := 1) rfl v_7602_e.symm (by decide) rfl (fun ls hl => ?_)
                  refine lv_goto (tgt := 14) hx hb dX12_comes_56 (by decide) ?_
                  exact ih_7583 v_7601 v_7602 ls (tr_w h_v_7601 (by decide) (by decide)) (tr_w h_v_7602 (by decide) (by decide)) (LF_add (t := x_7582) hr7583_0 h_x_7581 h_7586 v_7600_e v_7601_e (by (first | (clear h_p0 h_i_undoMany h_i_length h_i_size h_i_p h_i_at h_i_token h_i_number h_i_letterMany h_i_faultAt h_i_isKnown h_i_toldMany h_x_7556 h_x_7557 c_7559_i hw_7589 c_7590_i h_7592 c_7597_i h_v_7600; omega) | omega)) (by (first | (clear h_p0 h_i_undoMany h_i_length h_i_size h_i_p h_i_at h_i_token h_i_number h_i_letterMany h_i_faultAt h_i_isKnown h_i_toldMany h_x_7556 h_x_7557 c_7559_i hw_7589 c_7590_i h_7592 c_7597_i h_v_7600; omega) | omega)) (by have z_0 := tk_0; (first | (clear h_p0 h_i_undoMany h_i_length h_i_size h_i_p h_i_at h_i_token h_i_number h_i_letterMany h_i_faultAt h_i_isKnown h_i_toldMany h_x_7556 h_x_7557 c_7559_i hw_7589 c_7590_i h_7592 c_7597_i h_v_7600; omega) | omega)) hw_7595_p0 hw_7595 (by rw [← v_7596_e]; exact c_7597)) (CLm_add (t := x_7582) hr7583_1 (by (first | (clear h_p0 h_i_undoMany h_i_length h_i_size h_i_p h_i_at h_i_token h_i_number h_i_letterMany h_i_faultAt h_i_isKnown h_i_toldMany h_x_7556 h_x_7557 c_7559_i hw_7589 c_7590_i h_7592 c_7597_i h_v_7600; omega) | omega)) h_x_7581 h_7586 v_7600_e v_7601_e (by (first | (clear h_p0 h_i_undoMany h_i_length h_i_size h_i_p h_i_at h_i_token h_i_number h_i_letterMany h_i_faultAt h_i_isKnown h_i_toldMany h_x_7556 h_x_7557 c_7559_i hw_7589 c_7590_i h_7592 c_7597_i h_v_7600; omega) | omega)) (by (first | (clear h_p0 h_i_undoMany h_i_length h_i_size h_i_p h_i_at h_i_token h_i_number h_i_letterMany h_i_faultAt h_i_isKnown h_i_toldMany h_x_7556 h_x_7557 c_7559_i hw_7589 c_7590_i h_7592 c_7597_i h_v_7600; omega) | omega))) (by have z_0 := tk_0; (first | (clear h_p0 h_i_undoMany h_i_length h_i_size h_i_p h_i_at h_i_token h_i_number h_i_letterMany h_i_faultAt h_i_isKnown h_i_toldMany h_x_7556 h_x_7557 c_7559_i hw_7589 c_7590_i h_7592 c_7597_i h_v_7600; omega) | omega)) (by have z_0 := tk_0; (first | (clear h_p0 h_i_undoMany h_i_length h_i_size h_i_p h_i_at h_i_token h_i_number h_i_letterMany h_i_faultAt h_i_isKnown h_i_toldMany h_x_7556 h_x_7557 c_7559_i hw_7589 c_7590_i h_7592 c_7597_i h_v_7600; omega) | omega)) (by (first | (clear h_p0 h_i_undoMany h_i_length h_i_size h_i_p h_i_at h_i_token h_i_number h_i_letterMany h_i_faultAt h_i_isKnown h_i_toldMany h_x_7556 h_x_7557 c_7559_i hw_7589 c_7590_i h_7592 c_7597_i h_v_7600; omega) | omega)) (lv_sub hl [0, 2, 1, 3, 4] rfl)
        exact lp_7583 13 x_7556 0 ls (tr_w h_x_7556 (by decide) (by decide)) (⟨by decide, by decide⟩ : 0 ≤ (0 : Int32).toInt ∧ (0 : Int32).toInt ≤ 12) hr7558_0 (fun _ => CLm_zero) (by have z_0 := tk_0; (first | (clear h_p0 h_i_undoMany h_i_length h_i_size h_i_p h_i_at h_i_token h_i_number h_i_letterMany h_i_faultAt h_i_isKnown h_i_toldMany; omega) | omega)) (by have z_0 := tk_0; (first | (clear h_p0 h_i_undoMany h_i_length h_i_size h_i_p h_i_at h_i_token h_i_number h_i_letterMany h_i_faultAt h_i_isKnown h_i_toldMany; omega) | omega)) (by decide) (lv_sub hl [0, 1, 2, 3, 4] rfl)
  exact lp_7558 4097 p0 0 ls (tr_w h_p0 (by decide) (by decide)) (⟨by decide, by decide⟩ : 0 ≤ (0 : Int32).toInt ∧ (0 : Int32).toInt ≤ 4095) LF_self CL_zero (by have z_0 := tk_0; (first | (clear h_i_undoMany h_i_length h_i_size h_i_p h_i_at h_i_token h_i_number h_i_letterMany h_i_faultAt h_i_isKnown h_i_toldMany; omega) | omega)) (by have z9_0 := tk_0; (first | (clear h_i_undoMany h_i_length h_i_size h_i_p h_i_at h_i_token h_i_number h_i_letterMany h_i_faultAt h_i_isKnown h_i_toldMany; omega) | omega)) (lv_sub hl [0, 1, 2, 3] rfl)
/-! the reference's rows of rows: 12 rows of 13 longs -/
def tup (ct : Nat → Nat → Int64) (R J : Nat) (x : Int64) : Nat → Nat → Int64 := fun k => if k = R then vp_updL (ct R) J x else ct k
theorem tup_at (ct : Nat → Nat → Int64) (R J : Nat) (x : Int64) : tup ct R J x R J = x := by
  unfold tup vp_updL
  rw [if_pos rfl, if_pos rfl]
theorem tup_ne (ct : Nat → Nat → Int64) {R J i j : Nat} (x : Int64) (h : i ≠ R ∨ j ≠ J) : tup ct R J x i j = ct i j := by
  unfold tup
  by_cases e : i = R
  · subst e
    rw [if_pos rfl]
    unfold vp_updL
    rw [if_neg (by omega)]
  · rw [if_neg e]
theorem tup_cg {ct : Nat → Nat → Int64} {a a2 b b2 : Nat} {x : Int64} (h1 : a = a2) (h2 : b = b2) : tup ct a b x = tup ct a2 b2 x := by rw [h1, h2]
section TQ2
variable {p : Program} {l : Launch} {e : Env} {R : Room} {s : State} {m : MethodId} {args : Array Value} {below : List Frame} {meth : Method} {c : Code} {H H0 : Heap} {locs : List Loc} {cells slots : Nat} {Q : State → Prop} {pc : Nat} {ls : Array Slot} {rest : List Value} {cc : ByteArray} {D : va_G} {g : Nat → ClassId} {A : Nat → Prop} {rr : Nat → Nat} {WS : (Nat → Nat → Int64) → va_W} {ct : Nat → Nat → Int64}
theorem tq_ald12 (hx : p.tables.exec = Jvm.exec) (hb : c.code = cc) (hK : va_K D vwCl (TY g) s) (hP : va_P D vwCl (WS ct) H) (q0 : Nat) (hget : ∀ (ct : Nat → Nat → Int64) (i : Nat), i < 12 → (WS ct)[q0 + i]? = some (rr i, .inl (g 1, 13, .inr (.inl (ct i))))) {r j : Int32} (hr : vp_in r 12) (hj : vp_in j 13) (hdg : decode cc pc = .ok (.laload, 1))
    (kk : W p l e R s m args below meth c H locs cells slots Q (F0 m (pc + 1) ls (.long (ct r.toNatClampNeg j.toNatClampNeg) :: rest))) : W p l e R s m args below meth c H locs cells slots Q (F0 m pc ls (.int j :: .ref (rr r.toNatClampNeg) :: rest)) :=
  va_lald hx hb hK hP (q0 + r.toNatClampNeg) 1 (hget ct _ (tr_cl hr)) rfl hj hdg kk
theorem tq_ast12 (hx : p.tables.exec = Jvm.exec) (hb : c.code = cc) (hK : va_K D vwCl (TY g) s) (hP : va_P D vwCl (WS ct) H) (hD : va_D A (WS ct)) (hS : va_S A H0 H locs) (q0 : Nat) (hget : ∀ (ct : Nat → Nat → Int64) (i : Nat), i < 12 → (WS ct)[q0 + i]? = some (rr i, .inl (g 1, 13, .inr (.inl (ct i))))) (hset : ∀ (ct : Nat → Nat → Int64) (i : Nat) (f : Nat → Int64), i < 12 → (WS ct).set (q0 + i) (rr i, .inl (g 1, 13, .inr (.inl f))) = WS (fun k => if k = i then f else ct k)) {r j : Int32} {x : Int64} (hr : vp_in r 12) (hj : vp_in j 13) (hdg : decode cc pc = .ok (.lastore, 1))
    (kk : ∀ (ct1 : Nat → Nat → Int64), ct1 = tup ct r.toNatClampNeg j.toNatClampNeg x → ∀ (H1 : Heap) (locs1 : List Loc), va_P D vwCl (WS ct1) H1 → va_D A (WS ct1) → va_S A H0 H1 locs1 → W p l e R s m args below meth c H1 locs1 cells slots Q (F0 m (pc + 1) ls rest)) : W p l e R s m args below meth c H locs cells slots Q (F0 m pc ls (.long x :: .int j :: .ref (rr r.toNatClampNeg) :: rest)) := by
  refine va_last hx hb hK hP hD hS (q0 + r.toNatClampNeg) 1 (hget ct _ (tr_cl hr)) rfl hj hdg (fun H1 locs1 hP hD hS => ?_)
  rw [hset ct _ _ (tr_cl hr)] at hP hD
  exact kk _ rfl H1 locs1 hP hD hS
end TQ2
/-! longs -/
theorem tl_any (x : Int64) : -9223372036854775808 ≤ x.toInt ∧ x.toInt ≤ 9223372036854775807 := by
  have h1 := Int64.le_toInt x
  have h2 := Int64.toInt_le x
  have e1 : Int64.maxValue.toInt = 9223372036854775807 := by decide
  have e2 : Int64.minValue.toInt = -9223372036854775808 := by decide
  omega
theorem tl_bmod {z : Int} (h1 : -9223372036854775808 ≤ z) (h2 : z ≤ 9223372036854775807) : z.bmod 18446744073709551616 = z := by
  rw [Int.bmod_eq_of_le] <;> omega
theorem tl_add {x y : Int64} (h1 : -9223372036854775808 ≤ x.toInt + y.toInt) (h2 : x.toInt + y.toInt ≤ 9223372036854775807) : (x + y).toInt = x.toInt + y.toInt := by
  rw [Int64.toInt_add]; exact tl_bmod h1 h2
theorem tl_sub {x y : Int64} (h1 : -9223372036854775808 ≤ x.toInt - y.toInt) (h2 : x.toInt - y.toInt ≤ 9223372036854775807) : (x - y).toInt = x.toInt - y.toInt := by
  rw [Int64.toInt_sub]; exact tl_bmod h1 h2
theorem tl_mul {x y : Int64} (h1 : -9223372036854775808 ≤ x.toInt * y.toInt) (h2 : x.toInt * y.toInt ≤ 9223372036854775807) : (x * y).toInt = x.toInt * y.toInt := by
  rw [Int64.toInt_mul]; exact tl_bmod h1 h2
/-- a quotient that comes out even, by a number above 0 -/
theorem tl_div {x y : Int64} {q : Int} (h : x.toInt = q * y.toInt) (hy : ¬ y.toInt = 0) (h1 : -9223372036854775808 ≤ q) (h2 : q ≤ 9223372036854775807) : (x / y).toInt = q := by
  rw [Int64.toInt_div, h, Int.mul_tdiv_cancel _ hy]
  exact tl_bmod h1 h2
theorem tl_absmul {a b A B : Int} (h1 : -A ≤ a ∧ a ≤ A) (h2 : -B ≤ b ∧ b ≤ B) : -(A * B) ≤ a * b ∧ a * b ≤ A * B := by
  have hA : 0 ≤ A := by omega
  have hB : 0 ≤ B := by omega
  have e1 : 0 ≤ (A - a) * (B + b) := Int.mul_nonneg (by omega) (by omega)
  have e2 : 0 ≤ (A + a) * (B - b) := Int.mul_nonneg (by omega) (by omega)
  have e3 : 0 ≤ (A - a) * (B - b) := Int.mul_nonneg (by omega) (by omega)
  have e4 : 0 ≤ (A + a) * (B + b) := Int.mul_nonneg (by omega) (by omega)
  constructor <;> grind
theorem tl_step {u v w y b : Int64} {U V Wi Y B z : Int} (hu : u.toInt = U) (hv : v.toInt = V) (hw : w.toInt = Wi) (hy : y.toInt = Y) (hb : b.toInt = B) (bu : -3600000000 ≤ U ∧ U ≤ 3600000000) (bv : -400000000 ≤ V ∧ V ≤ 400000000) (bw : -400000000 ≤ Wi ∧ Wi ≤ 400000000) (by_ : -3600000000 ≤ Y ∧ Y ≤ 3600000000) (hB : 0 < B) (hz : z * B = U * V - Wi * Y) (bz : -3600000000 ≤ z ∧ z ≤ 3600000000) : ((u * v - w * y) / b).toInt = z := by
  subst hu hv hw hy hb
  have m1 := tl_absmul bu bv
  have m2 := tl_absmul bw by_
  have e1 := tl_mul (x := u) (y := v) (by omega) (by omega)
  have e2 := tl_mul (x := w) (y := y) (by omega) (by omega)
  have e3 := tl_sub (x := u * v) (y := w * y) (by omega) (by omega)
  exact tl_div (by rw [e3, e1, e2, hz]) (by omega) (by omega) (by omega)
/-- the rows as whole numbers -/
def tI (ct : Nat → Nat → Int64) : Nat → Nat → Int := fun i j => (ct i j).toInt
/-- the last column is bounded by the rows' sums -/
def LOK (n : Nat) (A : Nat → Nat → Int) : Prop := (∀ i, i < n → eA A i n ≤ 9 * pm_s n (eA A) (fun _ => 1) i ∧ -(9 * pm_s n (eA A) (fun _ => 1) i) ≤ eA A i n) ∨ ∀ c i : Nat, c ≤ n → i < n → -3600000000 ≤ eX A c i n ∧ eX A c i n ≤ 3600000000
def JOK (n : Nat) (A : Nat → Nat → Int) (j : Nat) : Prop := j < n ∨ (j = n ∧ LOK n A)
theorem JOK.le {n : Nat} {A : Nat → Nat → Int} {j : Nat} (h : JOK n A j) : j ≤ n := by rcases h with h | h <;> omega
theorem EH.jb {n : Nat} {A : Nat → Nat → Int} (h : EH n A) {c i j : Nat} (hc : c ≤ n) (hi : i < n) (hj : JOK n A j) : -3600000000 ≤ eX A c i j ∧ eX A c i j ≤ 3600000000 := by
  rcases hj with q | ⟨rfl, q⟩
  · have := h.bnd hc hi q; omega
  · rcases q with q | q
    · exact h.last q hc hi
    · exact q c i hc hi
def SM (n : Nat) (A : Nat → Nat → Int) (c : Nat) (ct : Nat → Nat → Int64) : Prop := ∀ i j, i < n → JOK n A j → (ct i j).toInt = eX A c i j
def sX (A : Nat → Nat → Int) (c i j : Nat) : Int := if i = c ∨ j = c then eX A c i j else eX A (c + 1) i j
def SY (n : Nat) (A : Nat → Nat → Int) (c i : Nat) (j : Int) (ct : Nat → Nat → Int64) : Prop := ∀ i' j', i' < n → JOK n A j' → (ct i' j').toInt = if i' < i ∨ (i' = i ∧ j < (j' : Int)) then sX A c i' j' else eX A c i' j'
def SZ (n : Nat) (A : Nat → Nat → Int) (c i : Nat) (ct : Nat → Nat → Int64) : Prop := ∀ i' j', i' < n → JOK n A j' → (ct i' j').toInt = if i' < i then eX A (c + 1) i' j' else sX A c i' j'
section SO
variable {n c : Nat} {A : Nat → Nat → Int} {ct : Nat → Nat → Int64}
theorem SM_zero (ct : Nat → Nat → Int64) : SM n (tI ct) 0 ct := fun i j _ _ => (e_X0 (tI ct) i j).symm
theorem SM_piv (h : EH n A) (hS : SM n A c ct) (hc : c < n) : 0 < (ct c c).toInt := by
  rw [hS c c hc (Or.inl hc)]; exact h.ppos hc
theorem SY_start (h : SM n A c ct) {i : Nat} {j : Int} (hi : i = 0) (hj : (n : Int) ≤ j) : SY n A c i j ct := fun i' j' q1 q2 => by
  have := q2.le
  rw [if_neg (by omega)]; exact h i' j' q1 q2
theorem SY_row {i i2 : Nat} {j j2 : Int} (h : SY n A c i j ct) (hj : j < 0) (hi : i2 = i + 1) (hj2 : (n : Int) ≤ j2) : SY n A c i2 j2 ct := fun i' j' q1 q2 => by
  have := q2.le
  rw [h i' j' q1 q2]
  by_cases e : i' < i ∨ (i' = i ∧ j < (j' : Int))
  · rw [if_pos e, if_pos (by omega)]
  · rw [if_neg e, if_neg (by omega)]
theorem SY_skip {i : Nat} {j j2 : Int} (h : SY n A c i j ct) (hq : i = c ∨ j = (c : Int)) (hj : j2 = j - 1) : SY n A c i j2 ct := fun i' j' q1 q2 => by
  rw [h i' j' q1 q2]
  by_cases e : i' < i ∨ (i' = i ∧ j < (j' : Int))
  · rw [if_pos e, if_pos (by omega)]
  · rw [if_neg e]
    by_cases e2 : i' < i ∨ (i' = i ∧ j2 < (j' : Int))
    · rw [if_pos e2]
      unfold sX
      rw [if_pos (by omega)]
    · rw [if_neg e2]
theorem SY_put {i J : Nat} {j j2 : Int} {ct2 : Nat → Nat → Int64} {w : Int64} (h : SY n A c i j ct) (hJ : j = (J : Int)) (hct : ct2 = tup ct i J w) (hw : JOK n A J → w.toInt = eX A (c + 1) i J) (hi : i ≠ c) (hjc : J ≠ c) (hj : j2 = j - 1) : SY n A c i j2 ct2 := fun i' j' q1 q2 => by
  subst hct
  by_cases e0 : i' = i ∧ j' = J
  · obtain ⟨rfl, rfl⟩ := e0
    rw [tup_at, hw q2, if_pos (by omega)]
    unfold sX
    rw [if_neg (by omega)]
  · rw [tup_ne _ _ (by omega), h i' j' q1 q2]
    by_cases e : i' < i ∨ (i' = i ∧ j < (j' : Int))
    · rw [if_pos e, if_pos (by omega)]
    · rw [if_neg e, if_neg (by omega)]
theorem SY_at {i i' j' : Nat} {j : Int} (h : SY n A c i j ct) (q1 : i' < n) (q2 : JOK n A j') (hq : i' = c ∨ j' = c ∨ (i' = i ∧ (j' : Int) = j)) : (ct i' j').toInt = eX A c i' j' := by
  rw [h i' j' q1 q2]
  by_cases e : i' < i ∨ (i' = i ∧ j < (j' : Int))
  · rw [if_pos e]
    unfold sX
    rw [if_pos (by omega)]
  · rw [if_neg e]
theorem SY_val (h : EH n A) {i J : Nat} {j : Int} {b u v w y : Int64} (hS : SY n A c i j ct) (hJ : j = (J : Int)) (hb : b.toInt = eb A c) (hc : c < n) (hi : i < n) (hic : i ≠ c) (hu : u = ct i J) (hv : v = ct c c) (hw : w = ct i c) (hy : y = ct c J) (hj : JOK n A J) : ((u * v - w * y) / b).toInt = eX A (c + 1) i J := by
  have jc : JOK n A c := Or.inl hc
  exact tl_step (by rw [hu]; exact SY_at hS hi hj (by omega)) (by rw [hv]; exact SY_at hS hc jc (by omega)) (by rw [hw]; exact SY_at hS hi jc (by omega)) (by rw [hy]; exact SY_at hS hc hj (by omega)) hb (h.jb (by omega) hi hj) (h.bnd (by omega) hc hc) (h.bnd (by omega) hi hc) (h.jb (by omega) hc hj) (h.bpos (by omega)) (h.step hc hic J) (h.jb (by omega) hi hj)
theorem SZ_start {i : Nat} {j : Int} (h : SY n A c i j ct) (hi : n ≤ i) : SZ n A c 0 ct := fun i' j' q1 q2 => by
  rw [h i' j' q1 q2, if_pos (by omega), if_neg (by omega)]
theorem SZ_skip (hE : EH n A) {i i2 : Nat} (h : SZ n A c i ct) (hc : c < n) (hi : i = c) (hi2 : i2 = i + 1) : SZ n A c i2 ct := fun i' j' q1 q2 => by
  rw [h i' j' q1 q2]
  by_cases e : i' < i
  · rw [if_pos e, if_pos (by omega)]
  · rw [if_neg e]
    by_cases e2 : i' < i2
    · rw [if_pos e2]
      obtain rfl : i' = c := by omega
      unfold sX
      rw [if_pos (Or.inl rfl), hE.row hc]
    · rw [if_neg e2]
theorem SZ_one (hE : EH n A) {i i2 : Nat} {ct2 : Nat → Nat → Int64} {z : Int64} (h : SZ n A c i ct) (hc : c < n) (hi : c < i) (hin : i < n) (hi2 : i2 = i + 1) (hz : z.toInt = 0) (hct : ct2 = tup ct i c z) : SZ n A c i2 ct2 := fun i' j' q1 q2 => by
  subst hct
  by_cases e0 : i' = i ∧ j' = c
  · obtain ⟨rfl, rfl⟩ := e0
    rw [tup_at, hz, if_pos (by omega), hE.unit (by omega) i' j' (by omega), if_neg (by omega)]
  · rw [tup_ne _ _ (by omega), h i' j' q1 q2]
    by_cases e : i' < i
    · rw [if_pos e, if_pos (by omega)]
    · rw [if_neg e]
      by_cases e2 : i' < i2
      · rw [if_pos e2]
        unfold sX
        rw [if_neg (by omega)]
      · rw [if_neg e2]
theorem SZ_two (hE : EH n A) {i i2 : Nat} {ct2 ct3 : Nat → Nat → Int64} {z v : Int64} (h : SZ n A c i ct) (hc : c < n) (hi : i < c) (hi2 : i2 = i + 1) (hz : z.toInt = 0) (hct : ct2 = tup ct i c z) (hv : v = ct2 c c) (hct3 : ct3 = tup ct2 i i v) : SZ n A c i2 ct3 := fun i' j' q1 q2 => by
  have jc : JOK n A c := Or.inl hc
  have ev : v.toInt = eb A (c + 1) := by
    rw [hv, hct, tup_ne _ _ (by omega), h c c hc jc, if_neg (by omega), e_bS]
    unfold sX
    rw [if_pos (Or.inl rfl)]
  subst hct3
  by_cases e1 : i' = i ∧ j' = i
  · obtain ⟨rfl, rfl⟩ := e1
    rw [tup_at, ev, if_pos (by omega), hE.unit (by omega) j' j' (by omega), if_pos rfl]
  · rw [tup_ne _ _ (by omega), hct]
    by_cases e0 : i' = i ∧ j' = c
    · obtain ⟨rfl, rfl⟩ := e0
      rw [tup_at, hz, if_pos (by omega), hE.unit (by omega) i' j' (by omega), if_neg (by omega)]
    · rw [tup_ne _ _ (by omega), h i' j' q1 q2]
      by_cases e : i' < i
      · rw [if_pos e, if_pos (by omega)]
      · rw [if_neg e]
        by_cases e2 : i' < i2
        · rw [if_pos e2]
          unfold sX
          rw [if_neg (by omega)]
        · rw [if_neg e2]
theorem SZ_end {i c2 : Nat} (h : SZ n A c i ct) (hi : n ≤ i) (hc2 : c2 = c + 1) : SM n A c2 ct := fun i' j' q1 q2 => by
  subst hc2
  rw [h i' j' q1 q2, if_pos (by omega)]
theorem SZ_piv (hE : EH n A) {i c2 : Nat} (h : SZ n A c i ct) (hi : n ≤ i) (hc : c < n) {v : Int64} (hv : v = ct c c) (hc2 : c2 = c + 1) : v.toInt = eb A c2 := by
  subst hc2
  rw [hv, h c c hc (Or.inl hc), if_pos (by omega), e_bS, hE.row hc]
end SO
theorem tl_cmp0 {w : Int64} (h : lg_cmp w 0 = 0) : w.toInt = 0 := by
  have h1 := Int64.le_iff_toInt_le.mp ((lg_cmp_ge w 0).mp (by rw [h]; decide))
  have h2 := Int64.le_iff_toInt_le.mp ((lg_cmp_le w 0).mp (by rw [h]; decide))
  have z : (0 : Int64).toInt = 0 := by decide
  omega
theorem tl_nz {b : Int64} {B : Int} (h : b.toInt = B) (hB : 0 < B) : ¬ b = 0 := fun e => by
  rw [e] at h
  have z : (0 : Int64).toInt = 0 := by decide
  omega
theorem tl_nz0 {b : Int64} (h : ¬ b = 0) : ¬ b.toInt = 0 := fun e => h (Int64.toInt_inj.mp (e.trans (by decide)))
/-! the common divisor -/
def GD (a b x y : Int) : Prop := (∀ d : Int, d ∣ x → d ∣ y → d ∣ a ∧ d ∣ b) ∧ ¬ (x = 0 ∧ y = 0) ∧ (0 ≤ a → 0 ≤ x ∧ 0 ≤ y)
theorem GD_start {a b : Int} (hb : 0 < b) : GD a b a b := ⟨fun _ h1 h2 => ⟨h1, h2⟩, fun h => by omega, fun h => ⟨h, by omega⟩⟩
theorem tl_tmod (a : Int) {b : Int} (h : ¬ b = 0) : (a.tmod b).natAbs < b.natAbs := by
  rw [Int.natAbs_tmod]
  exact Nat.mod_lt _ (Int.natAbs_pos.mpr h)
theorem tl_rem {x y z : Int64} (hz : z = x - x / y * y) (hy : ¬ y = 0) : ∃ q : Int, x.toInt = q * y.toInt + z.toInt ∧ z.toInt.natAbs < y.toInt.natAbs ∧ (0 ≤ x.toInt → 0 ≤ z.toInt) := by
  have hy0 := tl_nz0 hy
  have bx := tl_any x
  have b_y := tl_any y
  have h1 : z.toInt = x.toInt.tmod y.toInt := by
    rw [hz, Int64.toInt_sub, Int64.toInt_mul, Int64.toInt_div]
    have e := Int.tmod_add_mul_tdiv x.toInt y.toInt
    have m1 := tl_tmod x.toInt hy0
    have e2 : x.toInt - x.toInt.tdiv y.toInt * y.toInt = x.toInt.tmod y.toInt := by grind
    rw [← e2]
    simp only [Int.sub_bmod_bmod, Int.bmod_mul_bmod]
    rw [e2]
    exact tl_bmod (by omega) (by omega)
  refine ⟨x.toInt.tdiv y.toInt, ?_, ?_, ?_⟩
  · rw [h1]
    have e := Int.tmod_add_mul_tdiv x.toInt y.toInt
    grind
  · rw [h1]; exact tl_tmod x.toInt hy0
  · intro h; rw [h1]; exact Int.tmod_nonneg _ h
theorem GD_next {a b : Int} {x y z : Int64} (h : GD a b x.toInt y.toInt) (hz : z = x - x / y * y) (hy : ¬ y = 0) : GD a b y.toInt z.toInt := by
  obtain ⟨q, e, -, hn⟩ := tl_rem hz hy
  refine ⟨fun d h1 h2 => h.1 d ?_ h1, fun h1 => tl_nz0 hy h1.1, fun ha => ⟨(h.2.2 ha).2, hn (h.2.2 ha).1⟩⟩
  rw [e]
  exact Int.dvd_add (Int.dvd_mul_of_dvd_right h1) h2
theorem GD_end {a b x y : Int} (h : GD a b x y) (hy : y = 0) : ¬ x = 0 ∧ x ∣ a ∧ x ∣ b ∧ (0 ≤ a → 0 < x) := by
  subst hy
  have h0 : ¬ x = 0 := fun e => h.2.1 ⟨e, rfl⟩
  obtain ⟨h1, h2⟩ := h.1 x (Int.dvd_refl x) (Int.dvd_zero x)
  exact ⟨h0, h1, h2, fun ha => by have := (h.2.2 ha).1; omega⟩
theorem qw_130 : Cond.fieldLink RX12 55 "ChanceRingsModel" "m" "[[J" ∈ wsL_law := tseg_5 (by decide +kernel) (List.mem_of_getElem? (i := 151) rfl)
theorem dX12_divisor_0 : decode cX12_divisor 0 = .ok (.lload_n 0, 1) := by decide +kernel
theorem dX12_divisor_1 : decode cX12_divisor 1 = .ok (.lstore 4, 2) := by decide +kernel
theorem dX12_divisor_3 : decode cX12_divisor 3 = .ok (.lload_n 2, 1) := by decide +kernel
theorem dX12_divisor_4 : decode cX12_divisor 4 = .ok (.lstore 6, 2) := by decide +kernel
theorem dX12_divisor_6 : decode cX12_divisor 6 = .ok (.lload 6, 2) := by decide +kernel
theorem dX12_divisor_8 : decode cX12_divisor 8 = .ok (.lconst 0, 1) := by decide +kernel
theorem dX12_divisor_9 : decode cX12_divisor 9 = .ok (.lcmp, 1) := by decide +kernel
theorem dX12_divisor_10 : decode cX12_divisor 10 = .ok (.ifCond .eq 21, 3) := by decide +kernel
theorem dX12_divisor_13 : decode cX12_divisor 13 = .ok (.lload 4, 2) := by decide +kernel
theorem dX12_divisor_15 : decode cX12_divisor 15 = .ok (.lload 6, 2) := by decide +kernel
theorem dX12_divisor_17 : decode cX12_divisor 17 = .ok (.lrem, 1) := by decide +kernel
theorem dX12_divisor_18 : decode cX12_divisor 18 = .ok (.lstore 8, 2) := by decide +kernel
theorem dX12_divisor_20 : decode cX12_divisor 20 = .ok (.lload 6, 2) := by decide +kernel
theorem dX12_divisor_22 : decode cX12_divisor 22 = .ok (.lstore 4, 2) := by decide +kernel
theorem dX12_divisor_24 : decode cX12_divisor 24 = .ok (.lload 8, 2) := by decide +kernel
theorem dX12_divisor_26 : decode cX12_divisor 26 = .ok (.lstore 6, 2) := by decide +kernel
theorem dX12_divisor_28 : decode cX12_divisor 28 = .ok (.goto (-22), 3) := by decide +kernel
theorem dX12_divisor_31 : decode cX12_divisor 31 = .ok (.lload 4, 2) := by decide +kernel
theorem dX12_divisor_33 : decode cX12_divisor 33 = .ok (.lreturn, 1) := by decide +kernel
theorem dX12_solves_0 : decode cX12_solves 0 = .ok (.lconst 1, 1) := by decide +kernel
theorem dX12_solves_1 : decode cX12_solves 1 = .ok (.lstore_n 2, 1) := by decide +kernel
theorem dX12_solves_2 : decode cX12_solves 2 = .ok (.iconst 0, 1) := by decide +kernel
theorem dX12_solves_3 : decode cX12_solves 3 = .ok (.istore 4, 2) := by decide +kernel
theorem dX12_solves_5 : decode cX12_solves 5 = .ok (.iload 4, 2) := by decide +kernel
theorem dX12_solves_7 : decode cX12_solves 7 = .ok (.iload_n 1, 1) := by decide +kernel
theorem dX12_solves_8 : decode cX12_solves 8 = .ok (.if_icmp .ge 276, 3) := by decide +kernel
theorem dX12_solves_11 : decode cX12_solves 11 = .ok (.iload 4, 2) := by decide +kernel
theorem dX12_solves_13 : decode cX12_solves 13 = .ok (.istore 5, 2) := by decide +kernel
theorem dX12_solves_15 : decode cX12_solves 15 = .ok (.aload_n 0, 1) := by decide +kernel
theorem dX12_solves_16 : decode cX12_solves 16 = .ok (.getfield 55, 3) := by decide +kernel
theorem dX12_solves_19 : decode cX12_solves 19 = .ok (.iload 5, 2) := by decide +kernel
theorem dX12_solves_21 : decode cX12_solves 21 = .ok (.aaload, 1) := by decide +kernel
theorem dX12_solves_22 : decode cX12_solves 22 = .ok (.iload 4, 2) := by decide +kernel
theorem dX12_solves_24 : decode cX12_solves 24 = .ok (.laload, 1) := by decide +kernel
theorem dX12_solves_25 : decode cX12_solves 25 = .ok (.lconst 0, 1) := by decide +kernel
theorem dX12_solves_26 : decode cX12_solves 26 = .ok (.lcmp, 1) := by decide +kernel
theorem dX12_solves_27 : decode cX12_solves 27 = .ok (.ifCond .ne 9, 3) := by decide +kernel
theorem dX12_solves_36 : decode cX12_solves 36 = .ok (.iconst 0, 1) := by decide +kernel
theorem dX12_solves_37 : decode cX12_solves 37 = .ok (.istore 6, 2) := by decide +kernel
theorem dX12_solves_39 : decode cX12_solves 39 = .ok (.iload 6, 2) := by decide +kernel
theorem dX12_solves_41 : decode cX12_solves 41 = .ok (.iload_n 1, 1) := by decide +kernel
theorem dX12_solves_42 : decode cX12_solves 42 = .ok (.if_icmp .gt 61, 3) := by decide +kernel
theorem dX12_solves_45 : decode cX12_solves 45 = .ok (.iload 5, 2) := by decide +kernel
theorem dX12_solves_47 : decode cX12_solves 47 = .ok (.iload 4, 2) := by decide +kernel
theorem dX12_solves_49 : decode cX12_solves 49 = .ok (.if_icmp .eq 54, 3) := by decide +kernel
theorem dX12_solves_103 : decode cX12_solves 103 = .ok (.iconst 0, 1) := by decide +kernel
theorem dX12_solves_104 : decode cX12_solves 104 = .ok (.istore 6, 2) := by decide +kernel
theorem dX12_solves_106 : decode cX12_solves 106 = .ok (.iload 6, 2) := by decide +kernel
theorem dX12_solves_108 : decode cX12_solves 108 = .ok (.iload_n 1, 1) := by decide +kernel
theorem dX12_solves_109 : decode cX12_solves 109 = .ok (.if_icmp .ge 95, 3) := by decide +kernel
theorem dX12_solves_112 : decode cX12_solves 112 = .ok (.iload_n 1, 1) := by decide +kernel
theorem dX12_solves_113 : decode cX12_solves 113 = .ok (.istore 7, 2) := by decide +kernel
theorem dX12_solves_115 : decode cX12_solves 115 = .ok (.iload 7, 2) := by decide +kernel
theorem dX12_solves_117 : decode cX12_solves 117 = .ok (.ifCond .lt 81, 3) := by decide +kernel
theorem dX12_solves_120 : decode cX12_solves 120 = .ok (.iload 6, 2) := by decide +kernel
theorem dX12_solves_122 : decode cX12_solves 122 = .ok (.iload 4, 2) := by decide +kernel
theorem dX12_solves_124 : decode cX12_solves 124 = .ok (.if_icmp .eq 68, 3) := by decide +kernel
theorem dX12_solves_127 : decode cX12_solves 127 = .ok (.iload 7, 2) := by decide +kernel
theorem dX12_solves_129 : decode cX12_solves 129 = .ok (.iload 4, 2) := by decide +kernel
theorem dX12_solves_131 : decode cX12_solves 131 = .ok (.if_icmp .ne 6, 3) := by decide +kernel
theorem dX12_solves_134 : decode cX12_solves 134 = .ok (.goto 58, 3) := by decide +kernel
theorem dX12_solves_137 : decode cX12_solves 137 = .ok (.aload_n 0, 1) := by decide +kernel
theorem dX12_solves_138 : decode cX12_solves 138 = .ok (.getfield 55, 3) := by decide +kernel
theorem dX12_solves_141 : decode cX12_solves 141 = .ok (.iload 6, 2) := by decide +kernel
theorem dX12_solves_143 : decode cX12_solves 143 = .ok (.aaload, 1) := by decide +kernel
theorem dX12_solves_144 : decode cX12_solves 144 = .ok (.iload 7, 2) := by decide +kernel
theorem dX12_solves_146 : decode cX12_solves 146 = .ok (.aload_n 0, 1) := by decide +kernel
theorem dX12_solves_147 : decode cX12_solves 147 = .ok (.getfield 55, 3) := by decide +kernel
theorem dX12_solves_150 : decode cX12_solves 150 = .ok (.iload 6, 2) := by decide +kernel
theorem dX12_solves_152 : decode cX12_solves 152 = .ok (.aaload, 1) := by decide +kernel
theorem dX12_solves_153 : decode cX12_solves 153 = .ok (.iload 7, 2) := by decide +kernel
theorem dX12_solves_155 : decode cX12_solves 155 = .ok (.laload, 1) := by decide +kernel
theorem dX12_solves_156 : decode cX12_solves 156 = .ok (.aload_n 0, 1) := by decide +kernel
theorem dX12_solves_157 : decode cX12_solves 157 = .ok (.getfield 55, 3) := by decide +kernel
theorem dX12_solves_160 : decode cX12_solves 160 = .ok (.iload 4, 2) := by decide +kernel
theorem dX12_solves_162 : decode cX12_solves 162 = .ok (.aaload, 1) := by decide +kernel
theorem dX12_solves_163 : decode cX12_solves 163 = .ok (.iload 4, 2) := by decide +kernel
theorem dX12_solves_165 : decode cX12_solves 165 = .ok (.laload, 1) := by decide +kernel
theorem dX12_solves_166 : decode cX12_solves 166 = .ok (.lmul, 1) := by decide +kernel
theorem dX12_solves_167 : decode cX12_solves 167 = .ok (.aload_n 0, 1) := by decide +kernel
theorem dX12_solves_168 : decode cX12_solves 168 = .ok (.getfield 55, 3) := by decide +kernel
theorem dX12_solves_171 : decode cX12_solves 171 = .ok (.iload 6, 2) := by decide +kernel
theorem dX12_solves_173 : decode cX12_solves 173 = .ok (.aaload, 1) := by decide +kernel
theorem dX12_solves_174 : decode cX12_solves 174 = .ok (.iload 4, 2) := by decide +kernel
theorem dX12_solves_176 : decode cX12_solves 176 = .ok (.laload, 1) := by decide +kernel
theorem dX12_solves_177 : decode cX12_solves 177 = .ok (.aload_n 0, 1) := by decide +kernel
theorem dX12_solves_178 : decode cX12_solves 178 = .ok (.getfield 55, 3) := by decide +kernel
theorem dX12_solves_181 : decode cX12_solves 181 = .ok (.iload 4, 2) := by decide +kernel
theorem dX12_solves_183 : decode cX12_solves 183 = .ok (.aaload, 1) := by decide +kernel
theorem dX12_solves_184 : decode cX12_solves 184 = .ok (.iload 7, 2) := by decide +kernel
theorem dX12_solves_186 : decode cX12_solves 186 = .ok (.laload, 1) := by decide +kernel
theorem dX12_solves_187 : decode cX12_solves 187 = .ok (.lmul, 1) := by decide +kernel
theorem dX12_solves_188 : decode cX12_solves 188 = .ok (.lsub, 1) := by decide +kernel
theorem dX12_solves_189 : decode cX12_solves 189 = .ok (.lload_n 2, 1) := by decide +kernel
theorem dX12_solves_190 : decode cX12_solves 190 = .ok (.ldiv, 1) := by decide +kernel
theorem dX12_solves_191 : decode cX12_solves 191 = .ok (.lastore, 1) := by decide +kernel
theorem dX12_solves_192 : decode cX12_solves 192 = .ok (.iinc 7 (-1), 3) := by decide +kernel
theorem dX12_solves_195 : decode cX12_solves 195 = .ok (.goto (-80), 3) := by decide +kernel
theorem dX12_solves_198 : decode cX12_solves 198 = .ok (.iinc 6 1, 3) := by decide +kernel
theorem dX12_solves_201 : decode cX12_solves 201 = .ok (.goto (-95), 3) := by decide +kernel
theorem dX12_solves_204 : decode cX12_solves 204 = .ok (.iconst 0, 1) := by decide +kernel
theorem dX12_solves_205 : decode cX12_solves 205 = .ok (.istore 6, 2) := by decide +kernel
theorem dX12_solves_207 : decode cX12_solves 207 = .ok (.iload 6, 2) := by decide +kernel
theorem dX12_solves_209 : decode cX12_solves 209 = .ok (.iload_n 1, 1) := by decide +kernel
theorem dX12_solves_210 : decode cX12_solves 210 = .ok (.if_icmp .ge 57, 3) := by decide +kernel
theorem dX12_solves_213 : decode cX12_solves 213 = .ok (.iload 6, 2) := by decide +kernel
theorem dX12_solves_215 : decode cX12_solves 215 = .ok (.iload 4, 2) := by decide +kernel
theorem dX12_solves_217 : decode cX12_solves 217 = .ok (.if_icmp .ne 6, 3) := by decide +kernel
theorem dX12_solves_220 : decode cX12_solves 220 = .ok (.goto 41, 3) := by decide +kernel
theorem dX12_solves_223 : decode cX12_solves 223 = .ok (.aload_n 0, 1) := by decide +kernel
theorem dX12_solves_224 : decode cX12_solves 224 = .ok (.getfield 55, 3) := by decide +kernel
theorem dX12_solves_227 : decode cX12_solves 227 = .ok (.iload 6, 2) := by decide +kernel
theorem dX12_solves_229 : decode cX12_solves 229 = .ok (.aaload, 1) := by decide +kernel
theorem dX12_solves_230 : decode cX12_solves 230 = .ok (.iload 4, 2) := by decide +kernel
theorem dX12_solves_232 : decode cX12_solves 232 = .ok (.lconst 0, 1) := by decide +kernel
theorem dX12_solves_233 : decode cX12_solves 233 = .ok (.lastore, 1) := by decide +kernel
theorem dX12_solves_234 : decode cX12_solves 234 = .ok (.iload 6, 2) := by decide +kernel
theorem dX12_solves_236 : decode cX12_solves 236 = .ok (.iload 4, 2) := by decide +kernel
theorem dX12_solves_238 : decode cX12_solves 238 = .ok (.if_icmp .ge 23, 3) := by decide +kernel
theorem dX12_solves_241 : decode cX12_solves 241 = .ok (.aload_n 0, 1) := by decide +kernel
theorem dX12_solves_242 : decode cX12_solves 242 = .ok (.getfield 55, 3) := by decide +kernel
theorem dX12_solves_245 : decode cX12_solves 245 = .ok (.iload 6, 2) := by decide +kernel
theorem dX12_solves_247 : decode cX12_solves 247 = .ok (.aaload, 1) := by decide +kernel
theorem dX12_solves_248 : decode cX12_solves 248 = .ok (.iload 6, 2) := by decide +kernel
theorem dX12_solves_250 : decode cX12_solves 250 = .ok (.aload_n 0, 1) := by decide +kernel
theorem dX12_solves_251 : decode cX12_solves 251 = .ok (.getfield 55, 3) := by decide +kernel
theorem dX12_solves_254 : decode cX12_solves 254 = .ok (.iload 4, 2) := by decide +kernel
theorem dX12_solves_256 : decode cX12_solves 256 = .ok (.aaload, 1) := by decide +kernel
theorem dX12_solves_257 : decode cX12_solves 257 = .ok (.iload 4, 2) := by decide +kernel
theorem dX12_solves_259 : decode cX12_solves 259 = .ok (.laload, 1) := by decide +kernel
theorem dX12_solves_260 : decode cX12_solves 260 = .ok (.lastore, 1) := by decide +kernel
theorem dX12_solves_261 : decode cX12_solves 261 = .ok (.iinc 6 1, 3) := by decide +kernel
theorem dX12_solves_264 : decode cX12_solves 264 = .ok (.goto (-57), 3) := by decide +kernel
theorem dX12_solves_267 : decode cX12_solves 267 = .ok (.aload_n 0, 1) := by decide +kernel
theorem dX12_solves_268 : decode cX12_solves 268 = .ok (.getfield 55, 3) := by decide +kernel
theorem dX12_solves_271 : decode cX12_solves 271 = .ok (.iload 4, 2) := by decide +kernel
theorem dX12_solves_273 : decode cX12_solves 273 = .ok (.aaload, 1) := by decide +kernel
theorem dX12_solves_274 : decode cX12_solves 274 = .ok (.iload 4, 2) := by decide +kernel
theorem dX12_solves_276 : decode cX12_solves 276 = .ok (.laload, 1) := by decide +kernel
theorem dX12_solves_277 : decode cX12_solves 277 = .ok (.lstore_n 2, 1) := by decide +kernel
theorem dX12_solves_278 : decode cX12_solves 278 = .ok (.iinc 4 1, 3) := by decide +kernel
theorem dX12_solves_281 : decode cX12_solves 281 = .ok (.goto (-276), 3) := by decide +kernel
theorem dX12_solves_284 : decode cX12_solves 284 = .ok (.lload_n 2, 1) := by decide +kernel
theorem dX12_solves_285 : decode cX12_solves 285 = .ok (.lreturn, 1) := by decide +kernel
set_option maxHeartbeats 4000000 in
set_option maxRecDepth 100000 in
theorem c_X12_divisor (l : Launch) (D : va_G) (g : Nat → ClassId) (a0 : Int64) (b0 : Int64) (hb0 : 0 < (b0 : Int64).toInt) : Met l yX12_divisor (.code yX12_divisor cX12_divisor 10 (some .long) :: wsL_law) ({ frames := 0, cells := 0, slots := 0, locals := 0 }) (va_Pc [.long a0, .long b0] (fun U => va_P D vwCl [] U.heap ∧ va_K D vwCl (TY g) U)) (vp_Sl (fun r => (True) ∧ (¬ (r : Int64).toInt = 0 ∧ (r : Int64).toInt ∣ (a0 : Int64).toInt ∧ (r : Int64).toInt ∣ (b0 : Int64).toInt ∧ (0 ≤ (a0 : Int64).toInt → 0 < (r : Int64).toInt)))) 0 0 (fun _ => False) := by
  refine Met.ofW (cc := cX12_divisor) (maxL := 10) (ret := (some .long)) (by decide) rfl ?_
  intro p e s m args below meth c s₁ B hml hv
  obtain ⟨ha, hP, hK⟩ := hv
  have hx := B.exec
  have hb := B.bytes
  have hr := B.returns
  have hts0 := atoms_spec (ws := (.code yX12_divisor cX12_divisor 10 (some .long) :: wsL_law)) B.pre
  have hts : ∀ w ∈ wsL_law, w.before args s = true := fun w h => hts0 w (List.mem_cons_of_mem _ h)
  have hown : s.vm.findClass RX12 = some m.cls := findClass_of_methodNamed B.named
  have hlocks := B.notSynchronized
  have hP : va_P D vwCl [] s.heap := hP
  refine W.eq (g2 := entryFrame m ([.long a0, .long b0] : List Value).toArray 10) (by rw [ha]) ?_
  have hl := lv_entry ([.long a0, .long b0]) (n := 10) (Nat.le_of_ble_eq_true rfl)
  rw [lg_entry_eq]
  generalize (lg_sl ([.long a0, .long b0]) ++ List.replicate (10 - (lg_sl ([.long a0, .long b0])).length) Slot.unset).toArray = ls at hl ⊢
  have hl : lv_has ls 10 [(0, .long a0), (2, .long b0)] := hl
  have tla := tl_any b0
  refine lv_lload_n hx hb dX12_divisor_0 rfl (lv_at hl 0 rfl) ?_
  refine lv_lstore (lv' := [(4, .long a0), (0, .long a0), (2, .long b0)]) hx hb dX12_divisor_1 hl (by decide) rfl (fun ls hl => ?_)
  refine lv_lload_n hx hb dX12_divisor_3 rfl (lv_at hl 2 rfl) ?_
  refine lv_lstore (lv' := [(6, .long b0), (4, .long a0), (0, .long a0), (2, .long b0)]) hx hb dX12_divisor_4 hl (by decide) rfl (fun ls hl => ?_)
  have lp_7617 : ∀ (n_7617 : Nat) (x_7615 : Int64) (x_7616 : Int64) (ls : Array Slot), (GD (a0 : Int64).toInt (b0 : Int64).toInt (x_7616 : Int64).toInt (x_7615 : Int64).toInt) → (((x_7615.toInt.natAbs : Nat) : Int) < (n_7617 : Int)) → lv_has ls 10 [(6, .long x_7615), (4, .long x_7616), (0, .long a0), (2, .long b0)] → W p l e (headSpec (.code yX12_divisor cX12_divisor 10 (some .long) :: wsL_law) ({ frames := 0, cells := 0, slots := 0, locals := 0 })).room s m args below meth c s.heap [] 0 0 (MQ below (vp_Sl (fun r => (True) ∧ (¬ (r : Int64).toInt = 0 ∧ (r : Int64).toInt ∣ (a0 : Int64).toInt ∧ (r : Int64).toInt ∣ (b0 : Int64).toInt ∧ (0 ≤ (a0 : Int64).toInt → 0 < (r : Int64).toInt)))) args s 0 0 (fun _ => False)) (F0 m 6 ls []) := by
    intro n_7617
    induction n_7617 with
    | zero =>
      intro x_7615 x_7616 ls hr7617_0 hm_7617 hl
      exfalso; omega
    | succ n_7617 ih_7617 =>
      intro x_7615 x_7616 ls hr7617_0 hm_7617 hl
      refine lv_lload hx hb dX12_divisor_6 (lv_at hl 0 rfl) ?_
      refine lv_lconst (v := 0) hx hb dX12_divisor_8 (by decide) ?_
      refine W.lcmp hx hb dX12_divisor_9 ?_
      refine lv_topi (fun v_7618 v_7618_e => ?_)
      have h_v_7618 : (-1) ≤ (v_7618 : Int32).toInt ∧ (v_7618 : Int32).toInt ≤ 1 := by rw [v_7618_e]; exact tr_cmp _ _
      refine lv_if_eq (tgt := 31) hx hb dX12_divisor_10 (by decide) (fun c_7619 => ?_) (fun c_7619 => ?_)
      · skip
        have c_7619_i : (v_7618 : Int32).toInt = (0 : Int32).toInt := congrArg Int32.toInt c_7619
        have h_7620 : 0 ≤ (v_7618 : Int32).toInt ∧ (v_7618 : Int32).toInt ≤ 0 := nr_eq_l h_v_7618 (⟨by decide, by decide⟩ : 0 ≤ (0 : Int32).toInt ∧ (0 : Int32).toInt ≤ 0) c_7619_i (by decide) (by decide)
        refine lv_lload hx hb dX12_divisor_31 (lv_at hl 1 rfl) ?_
        exact W.lret (v := x_7616) hx hb hr (fun t ht hW => ⟨x_7616, rfl, ⟨trivial, (GD_end hr7617_0 (tl_cmp0 (by rw [← v_7618_e]; exact c_7619)))⟩, ht⟩) (fun _ h => nomatch h) dX12_divisor_33
      · skip
        have z_7621 : ¬ x_7615 = 0 := tr_cmp0 (by rw [← v_7618_e]; exact c_7619)
        refine lv_lload hx hb dX12_divisor_13 (lv_at hl 1 rfl) ?_
        refine lv_lload hx hb dX12_divisor_15 (lv_at hl 0 rfl) ?_
        refine lv_lrem hx hb dX12_divisor_17 z_7621 ?_
        refine lv_topl (fun w_7622 w_7622_e => ?_)
        refine lv_lstore (lv' := [(8, .long w_7622), (6, .long x_7615), (4, .long x_7616), (0, .long a0), (2, .long b0)]) hx hb dX12_divisor_18 hl (by decide) rfl (fun ls hl => ?_)
        have dv_q := tl_rem w_7622_e z_7621
        obtain ⟨dv_a, dv_b, dv_c, dv_d⟩ := dv_q
        refine lv_lload hx hb dX12_divisor_20 (lv_at hl 1 rfl) ?_
        refine lv_lstore (lv' := [(4, .long x_7615), (8, .long w_7622), (6, .long x_7615), (0, .long a0), (2, .long b0)]) hx hb dX12_divisor_22 hl (by decide) rfl (fun ls hl => ?_)
        refine lv_lload hx hb dX12_divisor_24 (lv_at hl 1 rfl) ?_
        refine lv_lstore (lv' := [(6, .long w_7622), (4, .long x_7615), (8, .long w_7622), (0, .long a0), (2, .long b0)]) hx hb dX12_divisor_26 hl (by decide) rfl (fun ls hl => ?_)
        refine lv_goto (tgt := 6) hx hb dX12_divisor_28 (by decide) ?_
        exact ih_7617 w_7622 x_7615 ls (GD_next hr7617_0 w_7622_e z_7621) (by omega) (lv_sub hl [0, 1, 3, 4] rfl)
  exact lp_7617 9223372036854775809 b0 a0 ls (GD_start hb0) (by omega) (lv_sub hl [0, 1, 2, 3] rfl)
set_option maxHeartbeats 4000000 in
set_option maxRecDepth 100000 in
theorem c_X12_solves (l : Launch) (D : va_G) (g : Nat → ClassId) (sz : Nat) (mm : Nat) (p0 : Int32) (i_thrown : Int32) (m_s : Nat) (m_spare : Nat) (m_kept : Nat) (m_undone : Nat) (m_triedWay : Nat) (m_isKept : Nat) (i_undoMany : Int32) (m_tape : Nat) (i_length : Int32) (i_size : Int32) (i_p : Int32) (i_at : Int32) (i_token : Int32) (i_number : Int32) (i_letterMany : Int32) (i_fault : Int32) (i_faultAt : Int32) (m_letters : Nat) (i_isKnown : Int32) (m_choice : Nat) (m_row : Nat) (m_up : Nat) (m_low : Nat) (m_m : Nat) (m_bestUp : Nat) (m_bestLow : Nat) (m_replyUp : Nat) (m_replyLow : Nat) (m_worthUp : Nat) (m_worthLow : Nat) (m_bestWay : Nat) (i_seed : Int32) (m_told : Nat) (i_toldMany : Int32) (rr : Nat → Nat) (ct : Nat → Nat → Int64) (h_p0 : 0 ≤ (p0 : Int32).toInt ∧ (p0 : Int32).toInt ≤ 12) (h_i_undoMany : 0 ≤ (i_undoMany : Int32).toInt ∧ (i_undoMany : Int32).toInt ≤ 8) (h_i_length : 0 ≤ (i_length : Int32).toInt ∧ (i_length : Int32).toInt ≤ 440) (h_i_size : 0 ≤ (i_size : Int32).toInt ∧ (i_size : Int32).toInt ≤ 440) (h_i_p : 0 ≤ (i_p : Int32).toInt ∧ (i_p : Int32).toInt ≤ 440) (h_i_at : 0 ≤ (i_at : Int32).toInt ∧ (i_at : Int32).toInt ≤ 440) (h_i_token : 0 ≤ (i_token : Int32).toInt ∧ (i_token : Int32).toInt ≤ 4) (h_i_number : 0 ≤ (i_number : Int32).toInt ∧ (i_number : Int32).toInt ≤ 814) (h_i_letterMany : (-440) ≤ (i_letterMany : Int32).toInt ∧ (i_letterMany : Int32).toInt ≤ 440) (h_i_faultAt : 0 ≤ (i_faultAt : Int32).toInt ∧ (i_faultAt : Int32).toInt ≤ 440) (h_i_isKnown : 0 ≤ (i_isKnown : Int32).toInt ∧ (i_isKnown : Int32).toInt ≤ 1) (h_i_toldMany : 0 ≤ (i_toldMany : Int32).toInt ∧ (i_toldMany : Int32).toInt ≤ 900) (hE : EH (p0 : Int32).toInt.toNat (tI ct)) : Met l yX12_solves (.code yX12_solves cX12_solves 9 (some .long) :: wsL_law) ({ frames := 0, cells := 0, slots := 0, locals := 0 }) (va_Pc [.ref mm, .int p0] (fun U => U.heap.size = sz ∧ va_P D vwCl [(wO12 mm i_thrown m_s m_spare m_kept m_undone m_triedWay m_isKept i_undoMany m_tape i_length i_size i_p i_at i_token i_number i_letterMany i_fault i_faultAt m_letters i_isKnown m_choice m_row m_up m_low m_m m_bestUp m_bestLow m_replyUp m_replyLow m_worthUp m_worthLow m_bestWay i_seed m_told i_toldMany), (wR g m_m 5 12 (fun i => if i < 12 then some (rr i) else none)), (wJ g (rr 0) 1 13 (ct 0)), (wJ g (rr 1) 1 13 (ct 1)), (wJ g (rr 2) 1 13 (ct 2)), (wJ g (rr 3) 1 13 (ct 3)), (wJ g (rr 4) 1 13 (ct 4)), (wJ g (rr 5) 1 13 (ct 5)), (wJ g (rr 6) 1 13 (ct 6)), (wJ g (rr 7) 1 13 (ct 7)), (wJ g (rr 8) 1 13 (ct 8)), (wJ g (rr 9) 1 13 (ct 9)), (wJ g (rr 10) 1 13 (ct 10)), (wJ g (rr 11) 1 13 (ct 11))] U.heap ∧ va_K D vwCl (TY g) U ∧ va_D (fun _ => True) [(wO12 mm i_thrown m_s m_spare m_kept m_undone m_triedWay m_isKept i_undoMany m_tape i_length i_size i_p i_at i_token i_number i_letterMany i_fault i_faultAt m_letters i_isKnown m_choice m_row m_up m_low m_m m_bestUp m_bestLow m_replyUp m_replyLow m_worthUp m_worthLow m_bestWay i_seed m_told i_toldMany), (wR g m_m 5 12 (fun i => if i < 12 then some (rr i) else none)), (wJ g (rr 0) 1 13 (ct 0)), (wJ g (rr 1) 1 13 (ct 1)), (wJ g (rr 2) 1 13 (ct 2)), (wJ g (rr 3) 1 13 (ct 3)), (wJ g (rr 4) 1 13 (ct 4)), (wJ g (rr 5) 1 13 (ct 5)), (wJ g (rr 6) 1 13 (ct 6)), (wJ g (rr 7) 1 13 (ct 7)), (wJ g (rr 8) 1 13 (ct 8)), (wJ g (rr 9) 1 13 (ct 9)), (wJ g (rr 10) 1 13 (ct 10)), (wJ g (rr 11) 1 13 (ct 11))])) (va_Ql (fun (r u : Int64) => u = r ∧ (True)) (fun r t => ∃ oct : Nat → Nat → Int64, (SM (p0 : Int32).toInt.toNat (tI ct) (p0 : Int32).toInt.toNat oct) ∧ ((r : Int64).toInt = eb (tI ct) (p0 : Int32).toInt.toNat) ∧ va_P D vwCl [(wO12 mm i_thrown m_s m_spare m_kept m_undone m_triedWay m_isKept i_undoMany m_tape i_length i_size i_p i_at i_token i_number i_letterMany i_fault i_faultAt m_letters i_isKnown m_choice m_row m_up m_low m_m m_bestUp m_bestLow m_replyUp m_replyLow m_worthUp m_worthLow m_bestWay i_seed m_told i_toldMany), (wR g m_m 5 12 (fun i => if i < 12 then some (rr i) else none)), (wJ g (rr 0) 1 13 (oct 0)), (wJ g (rr 1) 1 13 (oct 1)), (wJ g (rr 2) 1 13 (oct 2)), (wJ g (rr 3) 1 13 (oct 3)), (wJ g (rr 4) 1 13 (oct 4)), (wJ g (rr 5) 1 13 (oct 5)), (wJ g (rr 6) 1 13 (oct 6)), (wJ g (rr 7) 1 13 (oct 7)), (wJ g (rr 8) 1 13 (oct 8)), (wJ g (rr 9) 1 13 (oct 9)), (wJ g (rr 10) 1 13 (oct 10)), (wJ g (rr 11) 1 13 (oct 11))] t.heap ∧ va_D (va_A [(wO12 mm i_thrown m_s m_spare m_kept m_undone m_triedWay m_isKept i_undoMany m_tape i_length i_size i_p i_at i_token i_number i_letterMany i_fault i_faultAt m_letters i_isKnown m_choice m_row m_up m_low m_m m_bestUp m_bestLow m_replyUp m_replyLow m_worthUp m_worthLow m_bestWay i_seed m_told i_toldMany), (wR g m_m 5 12 (fun i => if i < 12 then some (rr i) else none)), (wJ g (rr 0) 1 13 (ct 0)), (wJ g (rr 1) 1 13 (ct 1)), (wJ g (rr 2) 1 13 (ct 2)), (wJ g (rr 3) 1 13 (ct 3)), (wJ g (rr 4) 1 13 (ct 4)), (wJ g (rr 5) 1 13 (ct 5)), (wJ g (rr 6) 1 13 (ct 6)), (wJ g (rr 7) 1 13 (ct 7)), (wJ g (rr 8) 1 13 (ct 8)), (wJ g (rr 9) 1 13 (ct 9)), (wJ g (rr 10) 1 13 (ct 10)), (wJ g (rr 11) 1 13 (ct 11))] sz) [(wO12 mm i_thrown m_s m_spare m_kept m_undone m_triedWay m_isKept i_undoMany m_tape i_length i_size i_p i_at i_token i_number i_letterMany i_fault i_faultAt m_letters i_isKnown m_choice m_row m_up m_low m_m m_bestUp m_bestLow m_replyUp m_replyLow m_worthUp m_worthLow m_bestWay i_seed m_told i_toldMany), (wR g m_m 5 12 (fun i => if i < 12 then some (rr i) else none)), (wJ g (rr 0) 1 13 (oct 0)), (wJ g (rr 1) 1 13 (oct 1)), (wJ g (rr 2) 1 13 (oct 2)), (wJ g (rr 3) 1 13 (oct 3)), (wJ g (rr 4) 1 13 (oct 4)), (wJ g (rr 5) 1 13 (oct 5)), (wJ g (rr 6) 1 13 (oct 6)), (wJ g (rr 7) 1 13 (oct 7)), (wJ g (rr 8) 1 13 (oct 8)), (wJ g (rr 9) 1 13 (oct 9)), (wJ g (rr 10) 1 13 (oct 10)), (wJ g (rr 11) 1 13 (oct 11))]) (va_A [(wO12 mm i_thrown m_s m_spare m_kept m_undone m_triedWay m_isKept i_undoMany m_tape i_length i_size i_p i_at i_token i_number i_letterMany i_fault i_faultAt m_letters i_isKnown m_choice m_row m_up m_low m_m m_bestUp m_bestLow m_replyUp m_replyLow m_worthUp m_worthLow m_bestWay i_seed m_told i_toldMany), (wR g m_m 5 12 (fun i => if i < 12 then some (rr i) else none)), (wJ g (rr 0) 1 13 (ct 0)), (wJ g (rr 1) 1 13 (ct 1)), (wJ g (rr 2) 1 13 (ct 2)), (wJ g (rr 3) 1 13 (ct 3)), (wJ g (rr 4) 1 13 (ct 4)), (wJ g (rr 5) 1 13 (ct 5)), (wJ g (rr 6) 1 13 (ct 6)), (wJ g (rr 7) 1 13 (ct 7)), (wJ g (rr 8) 1 13 (ct 8)), (wJ g (rr 9) 1 13 (ct 9)), (wJ g (rr 10) 1 13 (ct 10)), (wJ g (rr 11) 1 13 (ct 11))] sz)) 0 0 (va_A [(wO12 mm i_thrown m_s m_spare m_kept m_undone m_triedWay m_isKept i_undoMany m_tape i_length i_size i_p i_at i_token i_number i_letterMany i_fault i_faultAt m_letters i_isKnown m_choice m_row m_up m_low m_m m_bestUp m_bestLow m_replyUp m_replyLow m_worthUp m_worthLow m_bestWay i_seed m_told i_toldMany), (wR g m_m 5 12 (fun i => if i < 12 then some (rr i) else none)), (wJ g (rr 0) 1 13 (ct 0)), (wJ g (rr 1) 1 13 (ct 1)), (wJ g (rr 2) 1 13 (ct 2)), (wJ g (rr 3) 1 13 (ct 3)), (wJ g (rr 4) 1 13 (ct 4)), (wJ g (rr 5) 1 13 (ct 5)), (wJ g (rr 6) 1 13 (ct 6)), (wJ g (rr 7) 1 13 (ct 7)), (wJ g (rr 8) 1 13 (ct 8)), (wJ g (rr 9) 1 13 (ct 9)), (wJ g (rr 10) 1 13 (ct 10)), (wJ g (rr 11) 1 13 (ct 11))] sz) := by
  refine Met.ofW (cc := cX12_solves) (maxL := 9) (ret := (some .long)) (by decide) rfl ?_
  intro p e s m args below meth c s₁ B hml hv
  obtain ⟨ha, hsz, hP, hK, hD0⟩ := hv
  have hx := B.exec
  have hb := B.bytes
  have hr := B.returns
  have hts0 := atoms_spec (ws := (.code yX12_solves cX12_solves 9 (some .long) :: wsL_law)) B.pre
  have hts : ∀ w ∈ wsL_law, w.before args s = true := fun w h => hts0 w (List.mem_cons_of_mem _ h)
  have hown : s.vm.findClass RX12 = some m.cls := findClass_of_methodNamed B.named
  have hlocks := B.notSynchronized
  subst hsz
  have hD := hD0.self (sz := s.heap.size)
  generalize hAe : va_A [(wO12 mm i_thrown m_s m_spare m_kept m_undone m_triedWay m_isKept i_undoMany m_tape i_length i_size i_p i_at i_token i_number i_letterMany i_fault i_faultAt m_letters i_isKnown m_choice m_row m_up m_low m_m m_bestUp m_bestLow m_replyUp m_replyLow m_worthUp m_worthLow m_bestWay i_seed m_told i_toldMany), (wR g m_m 5 12 (fun i => if i < 12 then some (rr i) else none)), (wJ g (rr 0) 1 13 (ct 0)), (wJ g (rr 1) 1 13 (ct 1)), (wJ g (rr 2) 1 13 (ct 2)), (wJ g (rr 3) 1 13 (ct 3)), (wJ g (rr 4) 1 13 (ct 4)), (wJ g (rr 5) 1 13 (ct 5)), (wJ g (rr 6) 1 13 (ct 6)), (wJ g (rr 7) 1 13 (ct 7)), (wJ g (rr 8) 1 13 (ct 8)), (wJ g (rr 9) 1 13 (ct 9)), (wJ g (rr 10) 1 13 (ct 10)), (wJ g (rr 11) 1 13 (ct 11))] s.heap.size = A at hD ⊢
  have hA : ∀ q : Nat, s.heap.size ≤ q → A q := fun q h => by rw [← hAe]; exact Or.inr h
  have hS : va_S A s.heap s.heap [] := va_S.rf
  have hP : va_P D vwCl [(wO12 mm i_thrown m_s m_spare m_kept m_undone m_triedWay m_isKept i_undoMany m_tape i_length i_size i_p i_at i_token i_number i_letterMany i_fault i_faultAt m_letters i_isKnown m_choice m_row m_up m_low m_m m_bestUp m_bestLow m_replyUp m_replyLow m_worthUp m_worthLow m_bestWay i_seed m_told i_toldMany), (wR g m_m 5 12 (fun i => if i < 12 then some (rr i) else none)), (wJ g (rr 0) 1 13 (ct 0)), (wJ g (rr 1) 1 13 (ct 1)), (wJ g (rr 2) 1 13 (ct 2)), (wJ g (rr 3) 1 13 (ct 3)), (wJ g (rr 4) 1 13 (ct 4)), (wJ g (rr 5) 1 13 (ct 5)), (wJ g (rr 6) 1 13 (ct 6)), (wJ g (rr 7) 1 13 (ct 7)), (wJ g (rr 8) 1 13 (ct 8)), (wJ g (rr 9) 1 13 (ct 9)), (wJ g (rr 10) 1 13 (ct 10)), (wJ g (rr 11) 1 13 (ct 11))] s.heap := hP
  refine W.eq (g2 := entryFrame m ([.ref mm, .int p0] : List Value).toArray 9) (by rw [ha]) ?_
  have hl := lv_entry ([.ref mm, .int p0]) (n := 9) (Nat.le_of_ble_eq_true rfl)
  rw [lg_entry_eq]
  generalize (lg_sl ([.ref mm, .int p0]) ++ List.replicate (9 - (lg_sl ([.ref mm, .int p0])).length) Slot.unset).toArray = ls at hl ⊢
  have hl : lv_has ls 9 [(0, .ref mm), (1, .int p0)] := hl
  refine lv_lconst (v := 1) hx hb dX12_solves_0 (by decide) ?_
  refine lv_lstore_n (lv' := [(2, .long 1), (0, .ref mm), (1, .int p0)]) hx hb dX12_solves_1 rfl hl (by decide) rfl (fun ls hl => ?_)
  refine lv_iconst (v := 0) hx hb dX12_solves_2 (by decide) ?_
  refine lv_istore (lv' := [(4, .int 0), (2, .long 1), (0, .ref mm), (1, .int p0)]) hx hb dX12_solves_3 hl (by decide) rfl (fun ls hl => ?_)
  have lp_8368 : ∀ (n_8368 : Nat) (x_8365 : Int32) (x_8366 : Int64) (ct_8367 : Nat → Nat → Int64) (H : Heap) (locs : List Loc) (ls : Array Slot), (0 ≤ (x_8365 : Int32).toInt ∧ (x_8365 : Int32).toInt ≤ 12) → (SM (p0 : Int32).toInt.toNat (tI ct) x_8365.toInt.toNat ct_8367) → ((x_8366 : Int64).toInt = eb (tI ct) x_8365.toInt.toNat) → (x_8365.toInt ≤ (p0 : Int32).toInt) → (12 - x_8365.toInt < (n_8368 : Int)) → va_P D vwCl [(wO12 mm i_thrown m_s m_spare m_kept m_undone m_triedWay m_isKept i_undoMany m_tape i_length i_size i_p i_at i_token i_number i_letterMany i_fault i_faultAt m_letters i_isKnown m_choice m_row m_up m_low m_m m_bestUp m_bestLow m_replyUp m_replyLow m_worthUp m_worthLow m_bestWay i_seed m_told i_toldMany), (wR g m_m 5 12 (fun i => if i < 12 then some (rr i) else none)), (wJ g (rr 0) 1 13 (ct_8367 0)), (wJ g (rr 1) 1 13 (ct_8367 1)), (wJ g (rr 2) 1 13 (ct_8367 2)), (wJ g (rr 3) 1 13 (ct_8367 3)), (wJ g (rr 4) 1 13 (ct_8367 4)), (wJ g (rr 5) 1 13 (ct_8367 5)), (wJ g (rr 6) 1 13 (ct_8367 6)), (wJ g (rr 7) 1 13 (ct_8367 7)), (wJ g (rr 8) 1 13 (ct_8367 8)), (wJ g (rr 9) 1 13 (ct_8367 9)), (wJ g (rr 10) 1 13 (ct_8367 10)), (wJ g (rr 11) 1 13 (ct_8367 11))] H → va_D A [(wO12 mm i_thrown m_s m_spare m_kept m_undone m_triedWay m_isKept i_undoMany m_tape i_length i_size i_p i_at i_token i_number i_letterMany i_fault i_faultAt m_letters i_isKnown m_choice m_row m_up m_low m_m m_bestUp m_bestLow m_replyUp m_replyLow m_worthUp m_worthLow m_bestWay i_seed m_told i_toldMany), (wR g m_m 5 12 (fun i => if i < 12 then some (rr i) else none)), (wJ g (rr 0) 1 13 (ct_8367 0)), (wJ g (rr 1) 1 13 (ct_8367 1)), (wJ g (rr 2) 1 13 (ct_8367 2)), (wJ g (rr 3) 1 13 (ct_8367 3)), (wJ g (rr 4) 1 13 (ct_8367 4)), (wJ g (rr 5) 1 13 (ct_8367 5)), (wJ g (rr 6) 1 13 (ct_8367 6)), (wJ g (rr 7) 1 13 (ct_8367 7)), (wJ g (rr 8) 1 13 (ct_8367 8)), (wJ g (rr 9) 1 13 (ct_8367 9)), (wJ g (rr 10) 1 13 (ct_8367 10)), (wJ g (rr 11) 1 13 (ct_8367 11))] → va_S A s.heap H locs → lv_has ls 9 [(4, .int x_8365), (2, .long x_8366), (0, .ref mm), (1, .int p0)] → W p l e (headSpec (.code yX12_solves cX12_solves 9 (some .long) :: wsL_law) ({ frames := 0, cells := 0, slots := 0, locals := 0 })).room s m args below meth c H locs 0 0 (MQ below (va_Ql (fun (r u : Int64) => u = r ∧ (True)) (fun r t => ∃ oct : Nat → Nat → Int64, (SM (p0 : Int32).toInt.toNat (tI ct) (p0 : Int32).toInt.toNat oct) ∧ ((r : Int64).toInt = eb (tI ct) (p0 : Int32).toInt.toNat) ∧ va_P D vwCl [(wO12 mm i_thrown m_s m_spare m_kept m_undone m_triedWay m_isKept i_undoMany m_tape i_length i_size i_p i_at i_token i_number i_letterMany i_fault i_faultAt m_letters i_isKnown m_choice m_row m_up m_low m_m m_bestUp m_bestLow m_replyUp m_replyLow m_worthUp m_worthLow m_bestWay i_seed m_told i_toldMany), (wR g m_m 5 12 (fun i => if i < 12 then some (rr i) else none)), (wJ g (rr 0) 1 13 (oct 0)), (wJ g (rr 1) 1 13 (oct 1)), (wJ g (rr 2) 1 13 (oct 2)), (wJ g (rr 3) 1 13 (oct 3)), (wJ g (rr 4) 1 13 (oct 4)), (wJ g (rr 5) 1 13 (oct 5)), (wJ g (rr 6) 1 13 (oct 6)), (wJ g (rr 7) 1 13 (oct 7)), (wJ g (rr 8) 1 13 (oct 8)), (wJ g (rr 9) 1 13 (oct 9)), (wJ g (rr 10) 1 13 (oct 10)), (wJ g (rr 11) 1 13 (oct 11))] t.heap ∧ va_D A [(wO12 mm i_thrown m_s m_spare m_kept m_undone m_triedWay m_isKept i_undoMany m_tape i_length i_size i_p i_at i_token i_number i_letterMany i_fault i_faultAt m_letters i_isKnown m_choice m_row m_up m_low m_m m_bestUp m_bestLow m_replyUp m_replyLow m_worthUp m_worthLow m_bestWay i_seed m_told i_toldMany), (wR g m_m 5 12 (fun i => if i < 12 then some (rr i) else none)), (wJ g (rr 0) 1 13 (oct 0)), (wJ g (rr 1) 1 13 (oct 1)), (wJ g (rr 2) 1 13 (oct 2)), (wJ g (rr 3) 1 13 (oct 3)), (wJ g (rr 4) 1 13 (oct 4)), (wJ g (rr 5) 1 13 (oct 5)), (wJ g (rr 6) 1 13 (oct 6)), (wJ g (rr 7) 1 13 (oct 7)), (wJ g (rr 8) 1 13 (oct 8)), (wJ g (rr 9) 1 13 (oct 9)), (wJ g (rr 10) 1 13 (oct 10)), (wJ g (rr 11) 1 13 (oct 11))]) A) args s 0 0 A) (F0 m 5 ls []) := by
    intro n_8368
    induction n_8368 with
    | zero =>
      intro x_8365 x_8366 ct_8367 H locs ls h_x_8365 hr8368_0 hr8368_1 hr8368_2 hm_8368 hP hD hS hl
      exfalso; omega
    | succ n_8368 ih_8368 =>
      intro x_8365 x_8366 ct_8367 H locs ls h_x_8365 hr8368_0 hr8368_1 hr8368_2 hm_8368 hP hD hS hl
      refine lv_iload hx hb dX12_solves_5 (lv_at hl 0 rfl) ?_
      refine lv_iload_n hx hb dX12_solves_7 rfl (lv_at hl 3 rfl) ?_
      refine lv_icmp_ge (tgt := 284) hx hb dX12_solves_8 (by decide) (fun c_8369 => ?_) (fun c_8369 => ?_)
      · skip
        have c_8369_i := Int32.le_iff_toInt_le.mp c_8369
        refine lv_lload_n hx hb dX12_solves_284 rfl (lv_at hl 1 rfl) ?_
        have hP9 := hP.sub (ws' := [(wO12 mm i_thrown m_s m_spare m_kept m_undone m_triedWay m_isKept i_undoMany m_tape i_length i_size i_p i_at i_token i_number i_letterMany i_fault i_faultAt m_letters i_isKnown m_choice m_row m_up m_low m_m m_bestUp m_bestLow m_replyUp m_replyLow m_worthUp m_worthLow m_bestWay i_seed m_told i_toldMany), (wR g m_m 5 12 (fun i => if i < 12 then some (rr i) else none)), (wJ g (rr 0) 1 13 (ct_8367 0)), (wJ g (rr 1) 1 13 (ct_8367 1)), (wJ g (rr 2) 1 13 (ct_8367 2)), (wJ g (rr 3) 1 13 (ct_8367 3)), (wJ g (rr 4) 1 13 (ct_8367 4)), (wJ g (rr 5) 1 13 (ct_8367 5)), (wJ g (rr 6) 1 13 (ct_8367 6)), (wJ g (rr 7) 1 13 (ct_8367 7)), (wJ g (rr 8) 1 13 (ct_8367 8)), (wJ g (rr 9) 1 13 (ct_8367 9)), (wJ g (rr 10) 1 13 (ct_8367 10)), (wJ g (rr 11) 1 13 (ct_8367 11))]) [0, 1, 2, 3, 4, 5, 6, 7, 8, 9, 10, 11, 12, 13] rfl
        have hD9 := hD.sub (ws' := [(wO12 mm i_thrown m_s m_spare m_kept m_undone m_triedWay m_isKept i_undoMany m_tape i_length i_size i_p i_at i_token i_number i_letterMany i_fault i_faultAt m_letters i_isKnown m_choice m_row m_up m_low m_m m_bestUp m_bestLow m_replyUp m_replyLow m_worthUp m_worthLow m_bestWay i_seed m_told i_toldMany), (wR g m_m 5 12 (fun i => if i < 12 then some (rr i) else none)), (wJ g (rr 0) 1 13 (ct_8367 0)), (wJ g (rr 1) 1 13 (ct_8367 1)), (wJ g (rr 2) 1 13 (ct_8367 2)), (wJ g (rr 3) 1 13 (ct_8367 3)), (wJ g (rr 4) 1 13 (ct_8367 4)), (wJ g (rr 5) 1 13 (ct_8367 5)), (wJ g (rr 6) 1 13 (ct_8367 6)), (wJ g (rr 7) 1 13 (ct_8367 7)), (wJ g (rr 8) 1 13 (ct_8367 8)), (wJ g (rr 9) 1 13 (ct_8367 9)), (wJ g (rr 10) 1 13 (ct_8367 10)), (wJ g (rr 11) 1 13 (ct_8367 11))]) [0, 1, 2, 3, 4, 5, 6, 7, 8, 9, 10, 11, 12, 13] (by decide) rfl
        exact W.lret (v := x_8366) hx hb hr (fun t ht hW => ⟨⟨x_8366, x_8366, rfl, ⟨rfl, trivial⟩, ct_8367, ((by (first | (clear h_i_undoMany h_i_length h_i_size h_i_p h_i_at h_i_token h_i_number h_i_letterMany h_i_faultAt h_i_isKnown h_i_toldMany hP; omega) | omega) : x_8365.toInt.toNat = (p0 : Int32).toInt.toNat) ▸ hr8368_0), ((by (first | (clear h_i_undoMany h_i_length h_i_size h_i_p h_i_at h_i_token h_i_number h_i_letterMany h_i_faultAt h_i_isKnown h_i_toldMany hP; omega) | omega) : x_8365.toInt.toNat = (p0 : Int32).toInt.toNat) ▸ hr8368_1), by rw [ht]; exact hP9, hD9⟩, hS.F ht⟩) hS.2.2 dX12_solves_285
      · skip
        have c_8369_i := Int32.lt_iff_toInt_lt.mp (Int32.not_le.mp c_8369)
        have h_8370 : 0 ≤ (x_8365 : Int32).toInt ∧ (x_8365 : Int32).toInt ≤ 11 := nr_lt_l h_x_8365 h_p0 c_8369_i (by decide) (by decide)
        have h_8371 : 1 ≤ (p0 : Int32).toInt ∧ (p0 : Int32).toInt ≤ 12 := nr_lt_r h_x_8365 h_p0 c_8369_i (by decide) (by decide)
        refine lv_iload hx hb dX12_solves_11 (lv_at hl 0 rfl) ?_
        refine lv_istore (lv' := [(5, .int x_8365), (4, .int x_8365), (2, .long x_8366), (0, .ref mm), (1, .int p0)]) hx hb dX12_solves_13 hl (by decide) rfl (fun ls hl => ?_)
        refine lv_aload_n hx hb dX12_solves_15 rfl (lv_at hl 3 rfl) ?_
        refine va_get (D := D) (ci := 12) (v := .ref m_m) (C := RX12) (T := TX12) (N := 35) hx hb hts inlX12 hown hK hP 0 rfl rfl 24 (by decide) (hts (Cond.fieldLink RX12 55 "ChanceRingsModel" "m" "[[J") qw_130) (fun _ h9 => h9) rfl dX12_solves_16 ?_
        refine lv_iload hx hb dX12_solves_19 (lv_at hl 0 rfl) ?_
        refine va_ald2 hx hb hK hP 1 5 rfl rfl (tr_in h_8370 (by decide) (by decide)) dX12_solves_21 ?_
        refine tz_v (y := .ref (rr (x_8365 : Int32).toNatClampNeg)) (tz_row rfl (tr_cl (tr_in h_8370 (by decide) (by decide)))) ?_
        refine lv_iload hx hb dX12_solves_22 (lv_at hl 1 rfl) ?_
        refine tq_ald12 (WS := (fun ct9 : Nat → Nat → Int64 => [(wO12 mm i_thrown m_s m_spare m_kept m_undone m_triedWay m_isKept i_undoMany m_tape i_length i_size i_p i_at i_token i_number i_letterMany i_fault i_faultAt m_letters i_isKnown m_choice m_row m_up m_low m_m m_bestUp m_bestLow m_replyUp m_replyLow m_worthUp m_worthLow m_bestWay i_seed m_told i_toldMany), (wR g m_m 5 12 (fun i => if i < 12 then some (rr i) else none)), (wJ g (rr 0) 1 13 (ct9 0)), (wJ g (rr 1) 1 13 (ct9 1)), (wJ g (rr 2) 1 13 (ct9 2)), (wJ g (rr 3) 1 13 (ct9 3)), (wJ g (rr 4) 1 13 (ct9 4)), (wJ g (rr 5) 1 13 (ct9 5)), (wJ g (rr 6) 1 13 (ct9 6)), (wJ g (rr 7) 1 13 (ct9 7)), (wJ g (rr 8) 1 13 (ct9 8)), (wJ g (rr 9) 1 13 (ct9 9)), (wJ g (rr 10) 1 13 (ct9 10)), (wJ g (rr 11) 1 13 (ct9 11))])) (ct := ct_8367) hx hb hK hP 2 (fun ct i hi => by rcases nr_12 hi with rfl | rfl | rfl | rfl | rfl | rfl | rfl | rfl | rfl | rfl | rfl | rfl <;> rfl) (tr_in h_8370 (by decide) (by decide)) (tr_in h_8370 (by decide) (by decide)) dX12_solves_24 ?_
        refine lv_topl (fun w_8372 w_8372_e => ?_)
        have g_w_8372 : w_8372 = ct_8367 (x_8365.toInt.toNat) (x_8365.toInt.toNat) := w_8372_e.trans (congr (congrArg ct_8367 (rfl : (x_8365 : Int32).toNatClampNeg = x_8365.toInt.toNat)) (rfl : (x_8365 : Int32).toNatClampNeg = x_8365.toInt.toNat))
        refine lv_lconst (v := 0) hx hb dX12_solves_25 (by decide) ?_
        refine W.lcmp hx hb dX12_solves_26 ?_
        refine lv_topi (fun v_8373 v_8373_e => ?_)
        have h_v_8373 : (-1) ≤ (v_8373 : Int32).toInt ∧ (v_8373 : Int32).toInt ≤ 1 := by rw [v_8373_e]; exact tr_cmp _ _
        refine lv_if_ne (tgt := 36) hx hb dX12_solves_27 (by decide) (fun c_8374 => ?_) (fun c_8374 => ?_)
        · skip
          have z_8375 : ¬ w_8372 = 0 := tr_cmp0 (by rw [← v_8373_e]; exact c_8374)
          refine lv_iconst (v := 0) hx hb dX12_solves_36 (by decide) ?_
          refine lv_istore (lv' := [(6, .int 0), (5, .int x_8365), (4, .int x_8365), (2, .long x_8366), (0, .ref mm), (1, .int p0)]) hx hb dX12_solves_37 hl (by decide) rfl (fun ls hl => ?_)
          refine lv_iload hx hb dX12_solves_39 (lv_at hl 0 rfl) ?_
          refine lv_iload_n hx hb dX12_solves_41 rfl (lv_at hl 5 rfl) ?_
          refine lv_icmp_gt (tgt := 103) hx hb dX12_solves_42 (by decide) (fun h9 => (nr_x_lt h_8371 (⟨by decide, by decide⟩ : 0 ≤ (0 : Int32).toInt ∧ (0 : Int32).toInt ≤ 0) (Int32.lt_iff_toInt_lt.mp h9) (by decide)).elim) (fun c_8377 => ?_)
          have kk_0 := tk_0
          have c_8377_i := Int32.le_iff_toInt_le.mp (Int32.not_lt.mp c_8377)
          refine lv_iload hx hb dX12_solves_45 (lv_at hl 1 rfl) ?_
          refine lv_iload hx hb dX12_solves_47 (lv_at hl 2 rfl) ?_
          refine lv_icmp_eq (tgt := 103) hx hb dX12_solves_49 (by decide) (fun c_8378 => ?_) (fun c_8378 => ?_)
          · skip
            have c_8378_i : (x_8365 : Int32).toInt = (x_8365 : Int32).toInt := congrArg Int32.toInt c_8378
            refine lv_iconst (v := 0) hx hb dX12_solves_103 (by decide) ?_
            refine lv_istore (lv' := [(6, .int 0), (5, .int x_8365), (4, .int x_8365), (2, .long x_8366), (0, .ref mm), (1, .int p0)]) hx hb dX12_solves_104 hl (by decide) rfl (fun ls hl => ?_)
            have lp_8620 : ∀ (n_8620 : Nat) (x_8618 : Int32) (ct_8619 : Nat → Nat → Int64) (H : Heap) (locs : List Loc) (ls : Array Slot), (0 ≤ (x_8618 : Int32).toInt ∧ (x_8618 : Int32).toInt ≤ 12) → (SY (p0 : Int32).toInt.toNat (tI ct) x_8365.toInt.toNat x_8618.toInt.toNat (p0 : Int32).toInt ct_8619) → (12 - x_8618.toInt < (n_8620 : Int)) → va_P D vwCl [(wO12 mm i_thrown m_s m_spare m_kept m_undone m_triedWay m_isKept i_undoMany m_tape i_length i_size i_p i_at i_token i_number i_letterMany i_fault i_faultAt m_letters i_isKnown m_choice m_row m_up m_low m_m m_bestUp m_bestLow m_replyUp m_replyLow m_worthUp m_worthLow m_bestWay i_seed m_told i_toldMany), (wR g m_m 5 12 (fun i => if i < 12 then some (rr i) else none)), (wJ g (rr 0) 1 13 (ct_8619 0)), (wJ g (rr 1) 1 13 (ct_8619 1)), (wJ g (rr 2) 1 13 (ct_8619 2)), (wJ g (rr 3) 1 13 (ct_8619 3)), (wJ g (rr 4) 1 13 (ct_8619 4)), (wJ g (rr 5) 1 13 (ct_8619 5)), (wJ g (rr 6) 1 13 (ct_8619 6)), (wJ g (rr 7) 1 13 (ct_8619 7)), (wJ g (rr 8) 1 13 (ct_8619 8)), (wJ g (rr 9) 1 13 (ct_8619 9)), (wJ g (rr 10) 1 13 (ct_8619 10)), (wJ g (rr 11) 1 13 (ct_8619 11))] H → va_D A [(wO12 mm i_thrown m_s m_spare m_kept m_undone m_triedWay m_isKept i_undoMany m_tape i_length i_size i_p i_at i_token i_number i_letterMany i_fault i_faultAt m_letters i_isKnown m_choice m_row m_up m_low m_m m_bestUp m_bestLow m_replyUp m_replyLow m_worthUp m_worthLow m_bestWay i_seed m_told i_toldMany), (wR g m_m 5 12 (fun i => if i < 12 then some (rr i) else none)), (wJ g (rr 0) 1 13 (ct_8619 0)), (wJ g (rr 1) 1 13 (ct_8619 1)), (wJ g (rr 2) 1 13 (ct_8619 2)), (wJ g (rr 3) 1 13 (ct_8619 3)), (wJ g (rr 4) 1 13 (ct_8619 4)), (wJ g (rr 5) 1 13 (ct_8619 5)), (wJ g (rr 6) 1 13 (ct_8619 6)), (wJ g (rr 7) 1 13 (ct_8619 7)), (wJ g (rr 8) 1 13 (ct_8619 8)), (wJ g (rr 9) 1 13 (ct_8619 9)), (wJ g (rr 10) 1 13 (ct_8619 10)), (wJ g (rr 11) 1 13 (ct_8619 11))] → va_S A s.heap H locs → lv_has ls 9 [(6, .int x_8618), (5, .int x_8365), (4, .int x_8365), (2, .long x_8366), (0, .ref mm), (1, .int p0)] → W p l e (headSpec (.code yX12_solves cX12_solves 9 (some .long) :: wsL_law) ({ frames := 0, cells := 0, slots := 0, locals := 0 })).room s m args below meth c H locs 0 0 (MQ below (va_Ql (fun (r u : Int64) => u = r ∧ (True)) (fun r t => ∃ oct : Nat → Nat → Int64, (SM (p0 : Int32).toInt.toNat (tI ct) (p0 : Int32).toInt.toNat oct) ∧ ((r : Int64).toInt = eb (tI ct) (p0 : Int32).toInt.toNat) ∧ va_P D vwCl [(wO12 mm i_thrown m_s m_spare m_kept m_undone m_triedWay m_isKept i_undoMany m_tape i_length i_size i_p i_at i_token i_number i_letterMany i_fault i_faultAt m_letters i_isKnown m_choice m_row m_up m_low m_m m_bestUp m_bestLow m_replyUp m_replyLow m_worthUp m_worthLow m_bestWay i_seed m_told i_toldMany), (wR g m_m 5 12 (fun i => if i < 12 then some (rr i) else none)), (wJ g (rr 0) 1 13 (oct 0)), (wJ g (rr 1) 1 13 (oct 1)), (wJ g (rr 2) 1 13 (oct 2)), (wJ g (rr 3) 1 13 (oct 3)), (wJ g (rr 4) 1 13 (oct 4)), (wJ g (rr 5) 1 13 (oct 5)), (wJ g (rr 6) 1 13 (oct 6)), (wJ g (rr 7) 1 13 (oct 7)), (wJ g (rr 8) 1 13 (oct 8)), (wJ g (rr 9) 1 13 (oct 9)), (wJ g (rr 10) 1 13 (oct 10)), (wJ g (rr 11) 1 13 (oct 11))] t.heap ∧ va_D A [(wO12 mm i_thrown m_s m_spare m_kept m_undone m_triedWay m_isKept i_undoMany m_tape i_length i_size i_p i_at i_token i_number i_letterMany i_fault i_faultAt m_letters i_isKnown m_choice m_row m_up m_low m_m m_bestUp m_bestLow m_replyUp m_replyLow m_worthUp m_worthLow m_bestWay i_seed m_told i_toldMany), (wR g m_m 5 12 (fun i => if i < 12 then some (rr i) else none)), (wJ g (rr 0) 1 13 (oct 0)), (wJ g (rr 1) 1 13 (oct 1)), (wJ g (rr 2) 1 13 (oct 2)), (wJ g (rr 3) 1 13 (oct 3)), (wJ g (rr 4) 1 13 (oct 4)), (wJ g (rr 5) 1 13 (oct 5)), (wJ g (rr 6) 1 13 (oct 6)), (wJ g (rr 7) 1 13 (oct 7)), (wJ g (rr 8) 1 13 (oct 8)), (wJ g (rr 9) 1 13 (oct 9)), (wJ g (rr 10) 1 13 (oct 10)), (wJ g (rr 11) 1 13 (oct 11))]) A) args s 0 0 A) (F0 m 106 ls []) := by
              intro n_8620
              induction n_8620 with
              | zero =>
                intro x_8618 ct_8619 H locs ls h_x_8618 hr8620_0 hm_8620 hP hD hS hl
                exfalso; omega
              | succ n_8620 ih_8620 =>
                intro x_8618 ct_8619 H locs ls h_x_8618 hr8620_0 hm_8620 hP hD hS hl
                refine lv_iload hx hb dX12_solves_106 (lv_at hl 0 rfl) ?_
                refine lv_iload_n hx hb dX12_solves_108 rfl (lv_at hl 5 rfl) ?_
                refine lv_icmp_ge (tgt := 204) hx hb dX12_solves_109 (by decide) (fun c_8621 => ?_) (fun c_8621 => ?_)
                · skip
                  have c_8621_i := Int32.le_iff_toInt_le.mp c_8621
                  have h_8622 : 1 ≤ (x_8618 : Int32).toInt ∧ (x_8618 : Int32).toInt ≤ 12 := nr_le_r h_8371 h_x_8618 c_8621_i (by decide) (by decide)
                  refine lv_iconst (v := 0) hx hb dX12_solves_204 (by decide) ?_
                  refine lv_istore (lv' := [(6, .int 0), (5, .int x_8365), (4, .int x_8365), (2, .long x_8366), (0, .ref mm), (1, .int p0)]) hx hb dX12_solves_205 hl (by decide) rfl (fun ls hl => ?_)
                  have lp_8659 : ∀ (n_8659 : Nat) (x_8657 : Int32) (ct_8658 : Nat → Nat → Int64) (H : Heap) (locs : List Loc) (ls : Array Slot), (0 ≤ (x_8657 : Int32).toInt ∧ (x_8657 : Int32).toInt ≤ 12) → (SZ (p0 : Int32).toInt.toNat (tI ct) x_8365.toInt.toNat x_8657.toInt.toNat ct_8658) → (12 - x_8657.toInt < (n_8659 : Int)) → va_P D vwCl [(wO12 mm i_thrown m_s m_spare m_kept m_undone m_triedWay m_isKept i_undoMany m_tape i_length i_size i_p i_at i_token i_number i_letterMany i_fault i_faultAt m_letters i_isKnown m_choice m_row m_up m_low m_m m_bestUp m_bestLow m_replyUp m_replyLow m_worthUp m_worthLow m_bestWay i_seed m_told i_toldMany), (wR g m_m 5 12 (fun i => if i < 12 then some (rr i) else none)), (wJ g (rr 0) 1 13 (ct_8658 0)), (wJ g (rr 1) 1 13 (ct_8658 1)), (wJ g (rr 2) 1 13 (ct_8658 2)), (wJ g (rr 3) 1 13 (ct_8658 3)), (wJ g (rr 4) 1 13 (ct_8658 4)), (wJ g (rr 5) 1 13 (ct_8658 5)), (wJ g (rr 6) 1 13 (ct_8658 6)), (wJ g (rr 7) 1 13 (ct_8658 7)), (wJ g (rr 8) 1 13 (ct_8658 8)), (wJ g (rr 9) 1 13 (ct_8658 9)), (wJ g (rr 10) 1 13 (ct_8658 10)), (wJ g (rr 11) 1 13 (ct_8658 11))] H → va_D A [(wO12 mm i_thrown m_s m_spare m_kept m_undone m_triedWay m_isKept i_undoMany m_tape i_length i_size i_p i_at i_token i_number i_letterMany i_fault i_faultAt m_letters i_isKnown m_choice m_row m_up m_low m_m m_bestUp m_bestLow m_replyUp m_replyLow m_worthUp m_worthLow m_bestWay i_seed m_told i_toldMany), (wR g m_m 5 12 (fun i => if i < 12 then some (rr i) else none)), (wJ g (rr 0) 1 13 (ct_8658 0)), (wJ g (rr 1) 1 13 (ct_8658 1)), (wJ g (rr 2) 1 13 (ct_8658 2)), (wJ g (rr 3) 1 13 (ct_8658 3)), (wJ g (rr 4) 1 13 (ct_8658 4)), (wJ g (rr 5) 1 13 (ct_8658 5)), (wJ g (rr 6) 1 13 (ct_8658 6)), (wJ g (rr 7) 1 13 (ct_8658 7)), (wJ g (rr 8) 1 13 (ct_8658 8)), (wJ g (rr 9) 1 13 (ct_8658 9)), (wJ g (rr 10) 1 13 (ct_8658 10)), (wJ g (rr 11) 1 13 (ct_8658 11))] → va_S A s.heap H locs → lv_has ls 9 [(6, .int x_8657), (5, .int x_8365), (4, .int x_8365), (2, .long x_8366), (0, .ref mm), (1, .int p0)] → W p l e (headSpec (.code yX12_solves cX12_solves 9 (some .long) :: wsL_law) ({ frames := 0, cells := 0, slots := 0, locals := 0 })).room s m args below meth c H locs 0 0 (MQ below (va_Ql (fun (r u : Int64) => u = r ∧ (True)) (fun r t => ∃ oct : Nat → Nat → Int64, (SM (p0 : Int32).toInt.toNat (tI ct) (p0 : Int32).toInt.toNat oct) ∧ ((r : Int64).toInt = eb (tI ct) (p0 : Int32).toInt.toNat) ∧ va_P D vwCl [(wO12 mm i_thrown m_s m_spare m_kept m_undone m_triedWay m_isKept i_undoMany m_tape i_length i_size i_p i_at i_token i_number i_letterMany i_fault i_faultAt m_letters i_isKnown m_choice m_row m_up m_low m_m m_bestUp m_bestLow m_replyUp m_replyLow m_worthUp m_worthLow m_bestWay i_seed m_told i_toldMany), (wR g m_m 5 12 (fun i => if i < 12 then some (rr i) else none)), (wJ g (rr 0) 1 13 (oct 0)), (wJ g (rr 1) 1 13 (oct 1)), (wJ g (rr 2) 1 13 (oct 2)), (wJ g (rr 3) 1 13 (oct 3)), (wJ g (rr 4) 1 13 (oct 4)), (wJ g (rr 5) 1 13 (oct 5)), (wJ g (rr 6) 1 13 (oct 6)), (wJ g (rr 7) 1 13 (oct 7)), (wJ g (rr 8) 1 13 (oct 8)), (wJ g (rr 9) 1 13 (oct 9)), (wJ g (rr 10) 1 13 (oct 10)), (wJ g (rr 11) 1 13 (oct 11))] t.heap ∧ va_D A [(wO12 mm i_thrown m_s m_spare m_kept m_undone m_triedWay m_isKept i_undoMany m_tape i_length i_size i_p i_at i_token i_number i_letterMany i_fault i_faultAt m_letters i_isKnown m_choice m_row m_up m_low m_m m_bestUp m_bestLow m_replyUp m_replyLow m_worthUp m_worthLow m_bestWay i_seed m_told i_toldMany), (wR g m_m 5 12 (fun i => if i < 12 then some (rr i) else none)), (wJ g (rr 0) 1 13 (oct 0)), (wJ g (rr 1) 1 13 (oct 1)), (wJ g (rr 2) 1 13 (oct 2)), (wJ g (rr 3) 1 13 (oct 3)), (wJ g (rr 4) 1 13 (oct 4)), (wJ g (rr 5) 1 13 (oct 5)), (wJ g (rr 6) 1 13 (oct 6)), (wJ g (rr 7) 1 13 (oct 7)), (wJ g (rr 8) 1 13 (oct 8)), (wJ g (rr 9) 1 13 (oct 9)), (wJ g (rr 10) 1 13 (oct 10)), (wJ g (rr 11) 1 13 (oct 11))]) A) args s 0 0 A) (F0 m 207 ls []) := by
                    intro n_8659
                    induction n_8659 with
                    | zero =>
                      intro x_8657 ct_8658 H locs ls h_x_8657 hr8659_0 hm_8659 hP hD hS hl
                      exfalso; omega
                    | succ n_8659 ih_8659 =>
                      intro x_8657 ct_8658 H locs ls h_x_8657 hr8659_0 hm_8659 hP hD hS hl
                      refine lv_iload hx hb dX12_solves_207 (lv_at hl 0 rfl) ?_
                      refine lv_iload_n hx hb dX12_solves_209 rfl (lv_at hl 5 rfl) ?_
                      refine lv_icmp_ge (tgt := 267) hx hb dX12_solves_210 (by decide) (fun c_8660 => ?_) (fun c_8660 => ?_)
                      · skip
                        have c_8660_i := Int32.le_iff_toInt_le.mp c_8660
                        have h_8661 : 1 ≤ (x_8657 : Int32).toInt ∧ (x_8657 : Int32).toInt ≤ 12 := nr_le_r h_8371 h_x_8657 c_8660_i (by decide) (by decide)
                        refine lv_aload_n hx hb dX12_solves_267 rfl (lv_at hl 4 rfl) ?_
                        refine va_get (D := D) (ci := 12) (v := .ref m_m) (C := RX12) (T := TX12) (N := 35) hx hb hts inlX12 hown hK hP 0 rfl rfl 24 (by decide) (hts (Cond.fieldLink RX12 55 "ChanceRingsModel" "m" "[[J") qw_130) (fun _ h9 => h9) rfl dX12_solves_268 ?_
                        refine lv_iload hx hb dX12_solves_271 (lv_at hl 2 rfl) ?_
                        refine va_ald2 hx hb hK hP 1 5 rfl rfl (tr_in h_8370 (by decide) (by decide)) dX12_solves_273 ?_
                        refine tz_v (y := .ref (rr (x_8365 : Int32).toNatClampNeg)) (tz_row rfl (tr_cl (tr_in h_8370 (by decide) (by decide)))) ?_
                        refine lv_iload hx hb dX12_solves_274 (lv_at hl 2 rfl) ?_
                        refine tq_ald12 (WS := (fun ct9 : Nat → Nat → Int64 => [(wO12 mm i_thrown m_s m_spare m_kept m_undone m_triedWay m_isKept i_undoMany m_tape i_length i_size i_p i_at i_token i_number i_letterMany i_fault i_faultAt m_letters i_isKnown m_choice m_row m_up m_low m_m m_bestUp m_bestLow m_replyUp m_replyLow m_worthUp m_worthLow m_bestWay i_seed m_told i_toldMany), (wR g m_m 5 12 (fun i => if i < 12 then some (rr i) else none)), (wJ g (rr 0) 1 13 (ct9 0)), (wJ g (rr 1) 1 13 (ct9 1)), (wJ g (rr 2) 1 13 (ct9 2)), (wJ g (rr 3) 1 13 (ct9 3)), (wJ g (rr 4) 1 13 (ct9 4)), (wJ g (rr 5) 1 13 (ct9 5)), (wJ g (rr 6) 1 13 (ct9 6)), (wJ g (rr 7) 1 13 (ct9 7)), (wJ g (rr 8) 1 13 (ct9 8)), (wJ g (rr 9) 1 13 (ct9 9)), (wJ g (rr 10) 1 13 (ct9 10)), (wJ g (rr 11) 1 13 (ct9 11))])) (ct := ct_8658) hx hb hK hP 2 (fun ct i hi => by rcases nr_12 hi with rfl | rfl | rfl | rfl | rfl | rfl | rfl | rfl | rfl | rfl | rfl | rfl <;> rfl) (tr_in h_8370 (by decide) (by decide)) (tr_in h_8370 (by decide) (by decide)) dX12_solves_276 ?_
                        refine lv_topl (fun w_8663 w_8663_e => ?_)
                        have g_w_8663 : w_8663 = ct_8658 (x_8365.toInt.toNat) (x_8365.toInt.toNat) := w_8663_e.trans (congr (congrArg ct_8658 (rfl : (x_8365 : Int32).toNatClampNeg = x_8365.toInt.toNat)) (rfl : (x_8365 : Int32).toNatClampNeg = x_8365.toInt.toNat))
                        refine lv_lstore_n (lv' := [(2, .long w_8663), (6, .int x_8657), (5, .int x_8365), (4, .int x_8365), (0, .ref mm), (1, .int p0)]) hx hb dX12_solves_277 rfl hl (by decide) rfl (fun ls hl => ?_)
                        obtain ⟨v_8664, v_8664_e⟩ : ∃ y : Int32, y = x_8365 + Int32.ofInt 1 := ⟨_, rfl⟩
                        have h_v_8664 : 1 ≤ (v_8664 : Int32).toInt ∧ (v_8664 : Int32).toInt ≤ 12 := by rw [v_8664_e]; exact tr_add h_8370 (⟨by decide, by decide⟩ : 1 ≤ (Int32.ofInt 1 : Int32).toInt ∧ (Int32.ofInt 1 : Int32).toInt ≤ 1) (by decide) (by decide) (by decide) (by decide)
                        have q_v_8664 : v_8664.toInt = x_8365.toInt + 1 := by rw [v_8664_e]; exact tr_addE h_8370 (⟨by decide, by decide⟩ : 1 ≤ (Int32.ofInt 1 : Int32).toInt ∧ (Int32.ofInt 1 : Int32).toInt ≤ 1) (by decide) (by decide)
                        refine lv_iinc (v := v_8664) (lv' := [(4, .int v_8664), (2, .long w_8663), (6, .int x_8657), (5, .int x_8365), (0, .ref mm), (1, .int p0)]) hx hb dX12_solves_278 hl (k := 3) rfl v_8664_e.symm (by decide) rfl (fun ls hl => ?_)
                        refine lv_goto (tgt := 5) hx hb dX12_solves_281 (by decide) ?_
                        exact ih_8368 v_8664 w_8663 ct_8658 H _ ls (tr_w h_v_8664 (by decide) (by decide)) (SZ_end hr8659_0 (by omega) (by omega)) (SZ_piv hE hr8659_0 (by omega) (by omega) g_w_8663 (by omega)) (by have z_0 := tk_0; omega) (by omega) (hP.sub [0, 1, 2, 3, 4, 5, 6, 7, 8, 9, 10, 11, 12, 13] rfl) (hD.sub [0, 1, 2, 3, 4, 5, 6, 7, 8, 9, 10, 11, 12, 13] (by decide) rfl) hS (lv_sub hl [0, 1, 4, 5] rfl)
                      · skip
                        have c_8660_i := Int32.lt_iff_toInt_lt.mp (Int32.not_le.mp c_8660)
                        have h_8662 : 0 ≤ (x_8657 : Int32).toInt ∧ (x_8657 : Int32).toInt ≤ 11 := nr_lt_l h_x_8657 h_8371 c_8660_i (by decide) (by decide)
                        refine lv_iload hx hb dX12_solves_213 (lv_at hl 0 rfl) ?_
                        refine lv_iload hx hb dX12_solves_215 (lv_at hl 2 rfl) ?_
                        refine lv_icmp_ne (tgt := 223) hx hb dX12_solves_217 (by decide) (fun c_8665 => ?_) (fun c_8665 => ?_)
                        · skip
                          have c_8665_i : ¬ (x_8657 : Int32).toInt = (x_8365 : Int32).toInt := (fun q => c_8665 (Int32.toInt_inj.mp q))
                          refine lv_aload_n hx hb dX12_solves_223 rfl (lv_at hl 4 rfl) ?_
                          refine va_get (D := D) (ci := 12) (v := .ref m_m) (C := RX12) (T := TX12) (N := 35) hx hb hts inlX12 hown hK hP 0 rfl rfl 24 (by decide) (hts (Cond.fieldLink RX12 55 "ChanceRingsModel" "m" "[[J") qw_130) (fun _ h9 => h9) rfl dX12_solves_224 ?_
                          refine lv_iload hx hb dX12_solves_227 (lv_at hl 0 rfl) ?_
                          refine va_ald2 hx hb hK hP 1 5 rfl rfl (tr_in h_8662 (by decide) (by decide)) dX12_solves_229 ?_
                          refine tz_v (y := .ref (rr (x_8657 : Int32).toNatClampNeg)) (tz_row rfl (tr_cl (tr_in h_8662 (by decide) (by decide)))) ?_
                          refine lv_iload hx hb dX12_solves_230 (lv_at hl 2 rfl) ?_
                          refine lv_lconst (v := 0) hx hb dX12_solves_232 (by decide) ?_
                          refine tq_ast12 (WS := (fun ct9 : Nat → Nat → Int64 => [(wO12 mm i_thrown m_s m_spare m_kept m_undone m_triedWay m_isKept i_undoMany m_tape i_length i_size i_p i_at i_token i_number i_letterMany i_fault i_faultAt m_letters i_isKnown m_choice m_row m_up m_low m_m m_bestUp m_bestLow m_replyUp m_replyLow m_worthUp m_worthLow m_bestWay i_seed m_told i_toldMany), (wR g m_m 5 12 (fun i => if i < 12 then some (rr i) else none)), (wJ g (rr 0) 1 13 (ct9 0)), (wJ g (rr 1) 1 13 (ct9 1)), (wJ g (rr 2) 1 13 (ct9 2)), (wJ g (rr 3) 1 13 (ct9 3)), (wJ g (rr 4) 1 13 (ct9 4)), (wJ g (rr 5) 1 13 (ct9 5)), (wJ g (rr 6) 1 13 (ct9 6)), (wJ g (rr 7) 1 13 (ct9 7)), (wJ g (rr 8) 1 13 (ct9 8)), (wJ g (rr 9) 1 13 (ct9 9)), (wJ g (rr 10) 1 13 (ct9 10)), (wJ g (rr 11) 1 13 (ct9 11))])) (ct := ct_8658) (x := 0) hx hb hK hP hD hS 2 (fun ct i hi => by rcases nr_12 hi with rfl | rfl | rfl | rfl | rfl | rfl | rfl | rfl | rfl | rfl | rfl | rfl <;> rfl) (fun ct i f9 hi => by rcases nr_12 hi with rfl | rfl | rfl | rfl | rfl | rfl | rfl | rfl | rfl | rfl | rfl | rfl <;> rfl) (tr_in h_8662 (by decide) (by decide)) (tr_in h_8370 (by decide) (by decide)) dX12_solves_233 (fun ct_8666 ct_8666_e H locs hP hD hS => ?_)
                          have hP : va_P D vwCl [(wO12 mm i_thrown m_s m_spare m_kept m_undone m_triedWay m_isKept i_undoMany m_tape i_length i_size i_p i_at i_token i_number i_letterMany i_fault i_faultAt m_letters i_isKnown m_choice m_row m_up m_low m_m m_bestUp m_bestLow m_replyUp m_replyLow m_worthUp m_worthLow m_bestWay i_seed m_told i_toldMany), (wR g m_m 5 12 (fun i => if i < 12 then some (rr i) else none)), (wJ g (rr 0) 1 13 (ct_8666 0)), (wJ g (rr 1) 1 13 (ct_8666 1)), (wJ g (rr 2) 1 13 (ct_8666 2)), (wJ g (rr 3) 1 13 (ct_8666 3)), (wJ g (rr 4) 1 13 (ct_8666 4)), (wJ g (rr 5) 1 13 (ct_8666 5)), (wJ g (rr 6) 1 13 (ct_8666 6)), (wJ g (rr 7) 1 13 (ct_8666 7)), (wJ g (rr 8) 1 13 (ct_8666 8)), (wJ g (rr 9) 1 13 (ct_8666 9)), (wJ g (rr 10) 1 13 (ct_8666 10)), (wJ g (rr 11) 1 13 (ct_8666 11))] H := hP
                          have hD : va_D A [(wO12 mm i_thrown m_s m_spare m_kept m_undone m_triedWay m_isKept i_undoMany m_tape i_length i_size i_p i_at i_token i_number i_letterMany i_fault i_faultAt m_letters i_isKnown m_choice m_row m_up m_low m_m m_bestUp m_bestLow m_replyUp m_replyLow m_worthUp m_worthLow m_bestWay i_seed m_told i_toldMany), (wR g m_m 5 12 (fun i => if i < 12 then some (rr i) else none)), (wJ g (rr 0) 1 13 (ct_8666 0)), (wJ g (rr 1) 1 13 (ct_8666 1)), (wJ g (rr 2) 1 13 (ct_8666 2)), (wJ g (rr 3) 1 13 (ct_8666 3)), (wJ g (rr 4) 1 13 (ct_8666 4)), (wJ g (rr 5) 1 13 (ct_8666 5)), (wJ g (rr 6) 1 13 (ct_8666 6)), (wJ g (rr 7) 1 13 (ct_8666 7)), (wJ g (rr 8) 1 13 (ct_8666 8)), (wJ g (rr 9) 1 13 (ct_8666 9)), (wJ g (rr 10) 1 13 (ct_8666 10)), (wJ g (rr 11) 1 13 (ct_8666 11))] := hD
                          have g_ct_8666 : ct_8666 = tup ct_8658 (x_8657.toInt.toNat) (x_8365.toInt.toNat) 0 := ct_8666_e.trans (tup_cg (rfl : (x_8657 : Int32).toNatClampNeg = x_8657.toInt.toNat) (rfl : (x_8365 : Int32).toNatClampNeg = x_8365.toInt.toNat))
                          refine lv_iload hx hb dX12_solves_234 (lv_at hl 0 rfl) ?_
                          refine lv_iload hx hb dX12_solves_236 (lv_at hl 2 rfl) ?_
                          refine lv_icmp_ge (tgt := 261) hx hb dX12_solves_238 (by decide) (fun c_8667 => ?_) (fun c_8667 => ?_)
                          · skip
                            have c_8667_i := Int32.le_iff_toInt_le.mp c_8667
                            obtain ⟨v_8670, v_8670_e⟩ : ∃ y : Int32, y = x_8657 + Int32.ofInt 1 := ⟨_, rfl⟩
                            have h_v_8670 : 1 ≤ (v_8670 : Int32).toInt ∧ (v_8670 : Int32).toInt ≤ 12 := by rw [v_8670_e]; exact tr_add h_8662 (⟨by decide, by decide⟩ : 1 ≤ (Int32.ofInt 1 : Int32).toInt ∧ (Int32.ofInt 1 : Int32).toInt ≤ 1) (by decide) (by decide) (by decide) (by decide)
                            have q_v_8670 : v_8670.toInt = x_8657.toInt + 1 := by rw [v_8670_e]; exact tr_addE h_8662 (⟨by decide, by decide⟩ : 1 ≤ (Int32.ofInt 1 : Int32).toInt ∧ (Int32.ofInt 1 : Int32).toInt ≤ 1) (by decide) (by decide)
                            refine lv_iinc (v := v_8670) (lv' := [(6, .int v_8670), (5, .int x_8365), (4, .int x_8365), (2, .long x_8366), (0, .ref mm), (1, .int p0)]) hx hb dX12_solves_261 hl (k := 0) rfl v_8670_e.symm (by decide) rfl (fun ls hl => ?_)
                            refine lv_goto (tgt := 207) hx hb dX12_solves_264 (by decide) ?_
                            exact ih_8659 v_8670 ct_8666 H _ ls (tr_w h_v_8670 (by decide) (by decide)) (SZ_one hE hr8659_0 (by omega) (by omega) (by omega) (by omega) (by decide) g_ct_8666) (by omega) (hP.sub [0, 1, 2, 3, 4, 5, 6, 7, 8, 9, 10, 11, 12, 13] rfl) (hD.sub [0, 1, 2, 3, 4, 5, 6, 7, 8, 9, 10, 11, 12, 13] (by decide) rfl) hS (lv_sub hl [0, 1, 2, 3, 4, 5] rfl)
                          · skip
                            have c_8667_i := Int32.lt_iff_toInt_lt.mp (Int32.not_le.mp c_8667)
                            have h_8668 : 0 ≤ (x_8657 : Int32).toInt ∧ (x_8657 : Int32).toInt ≤ 10 := nr_lt_l h_8662 h_8370 c_8667_i (by decide) (by decide)
                            have h_8669 : 1 ≤ (x_8365 : Int32).toInt ∧ (x_8365 : Int32).toInt ≤ 11 := nr_lt_r h_8662 h_8370 c_8667_i (by decide) (by decide)
                            refine lv_aload_n hx hb dX12_solves_241 rfl (lv_at hl 4 rfl) ?_
                            refine va_get (D := D) (ci := 12) (v := .ref m_m) (C := RX12) (T := TX12) (N := 35) hx hb hts inlX12 hown hK hP 0 rfl rfl 24 (by decide) (hts (Cond.fieldLink RX12 55 "ChanceRingsModel" "m" "[[J") qw_130) (fun _ h9 => h9) rfl dX12_solves_242 ?_
                            refine lv_iload hx hb dX12_solves_245 (lv_at hl 0 rfl) ?_
                            refine va_ald2 hx hb hK hP 1 5 rfl rfl (tr_in h_8668 (by decide) (by decide)) dX12_solves_247 ?_
                            refine tz_v (y := .ref (rr (x_8657 : Int32).toNatClampNeg)) (tz_row rfl (tr_cl (tr_in h_8668 (by decide) (by decide)))) ?_
                            refine lv_iload hx hb dX12_solves_248 (lv_at hl 0 rfl) ?_
                            refine lv_aload_n hx hb dX12_solves_250 rfl (lv_at hl 4 rfl) ?_
                            refine va_get (D := D) (ci := 12) (v := .ref m_m) (C := RX12) (T := TX12) (N := 35) hx hb hts inlX12 hown hK hP 0 rfl rfl 24 (by decide) (hts (Cond.fieldLink RX12 55 "ChanceRingsModel" "m" "[[J") qw_130) (fun _ h9 => h9) rfl dX12_solves_251 ?_
                            refine lv_iload hx hb dX12_solves_254 (lv_at hl 2 rfl) ?_
                            refine va_ald2 hx hb hK hP 1 5 rfl rfl (tr_in h_8669 (by decide) (by decide)) dX12_solves_256 ?_
                            refine tz_v (y := .ref (rr (x_8365 : Int32).toNatClampNeg)) (tz_row rfl (tr_cl (tr_in h_8669 (by decide) (by decide)))) ?_
                            refine lv_iload hx hb dX12_solves_257 (lv_at hl 2 rfl) ?_
                            refine tq_ald12 (WS := (fun ct9 : Nat → Nat → Int64 => [(wO12 mm i_thrown m_s m_spare m_kept m_undone m_triedWay m_isKept i_undoMany m_tape i_length i_size i_p i_at i_token i_number i_letterMany i_fault i_faultAt m_letters i_isKnown m_choice m_row m_up m_low m_m m_bestUp m_bestLow m_replyUp m_replyLow m_worthUp m_worthLow m_bestWay i_seed m_told i_toldMany), (wR g m_m 5 12 (fun i => if i < 12 then some (rr i) else none)), (wJ g (rr 0) 1 13 (ct9 0)), (wJ g (rr 1) 1 13 (ct9 1)), (wJ g (rr 2) 1 13 (ct9 2)), (wJ g (rr 3) 1 13 (ct9 3)), (wJ g (rr 4) 1 13 (ct9 4)), (wJ g (rr 5) 1 13 (ct9 5)), (wJ g (rr 6) 1 13 (ct9 6)), (wJ g (rr 7) 1 13 (ct9 7)), (wJ g (rr 8) 1 13 (ct9 8)), (wJ g (rr 9) 1 13 (ct9 9)), (wJ g (rr 10) 1 13 (ct9 10)), (wJ g (rr 11) 1 13 (ct9 11))])) (ct := ct_8666) hx hb hK hP 2 (fun ct i hi => by rcases nr_12 hi with rfl | rfl | rfl | rfl | rfl | rfl | rfl | rfl | rfl | rfl | rfl | rfl <;> rfl) (tr_in h_8669 (by decide) (by decide)) (tr_in h_8669 (by decide) (by decide)) dX12_solves_259 ?_
                            refine lv_topl (fun w_8671 w_8671_e => ?_)
                            have g_w_8671 : w_8671 = ct_8666 (x_8365.toInt.toNat) (x_8365.toInt.toNat) := w_8671_e.trans (congr (congrArg ct_8666 (rfl : (x_8365 : Int32).toNatClampNeg = x_8365.toInt.toNat)) (rfl : (x_8365 : Int32).toNatClampNeg = x_8365.toInt.toNat))
                            refine tq_ast12 (WS := (fun ct9 : Nat → Nat → Int64 => [(wO12 mm i_thrown m_s m_spare m_kept m_undone m_triedWay m_isKept i_undoMany m_tape i_length i_size i_p i_at i_token i_number i_letterMany i_fault i_faultAt m_letters i_isKnown m_choice m_row m_up m_low m_m m_bestUp m_bestLow m_replyUp m_replyLow m_worthUp m_worthLow m_bestWay i_seed m_told i_toldMany), (wR g m_m 5 12 (fun i => if i < 12 then some (rr i) else none)), (wJ g (rr 0) 1 13 (ct9 0)), (wJ g (rr 1) 1 13 (ct9 1)), (wJ g (rr 2) 1 13 (ct9 2)), (wJ g (rr 3) 1 13 (ct9 3)), (wJ g (rr 4) 1 13 (ct9 4)), (wJ g (rr 5) 1 13 (ct9 5)), (wJ g (rr 6) 1 13 (ct9 6)), (wJ g (rr 7) 1 13 (ct9 7)), (wJ g (rr 8) 1 13 (ct9 8)), (wJ g (rr 9) 1 13 (ct9 9)), (wJ g (rr 10) 1 13 (ct9 10)), (wJ g (rr 11) 1 13 (ct9 11))])) (ct := ct_8666) (x := w_8671) hx hb hK hP hD hS 2 (fun ct i hi => by rcases nr_12 hi with rfl | rfl | rfl | rfl | rfl | rfl | rfl | rfl | rfl | rfl | rfl | rfl <;> rfl) (fun ct i f9 hi => by rcases nr_12 hi with rfl | rfl | rfl | rfl | rfl | rfl | rfl | rfl | rfl | rfl | rfl | rfl <;> rfl) (tr_in h_8668 (by decide) (by decide)) (tr_in h_8668 (by decide) (by decide)) dX12_solves_260 (fun ct_8672 ct_8672_e H locs hP hD hS => ?_)
                            have hP : va_P D vwCl [(wO12 mm i_thrown m_s m_spare m_kept m_undone m_triedWay m_isKept i_undoMany m_tape i_length i_size i_p i_at i_token i_number i_letterMany i_fault i_faultAt m_letters i_isKnown m_choice m_row m_up m_low m_m m_bestUp m_bestLow m_replyUp m_replyLow m_worthUp m_worthLow m_bestWay i_seed m_told i_toldMany), (wR g m_m 5 12 (fun i => if i < 12 then some (rr i) else none)), (wJ g (rr 0) 1 13 (ct_8672 0)), (wJ g (rr 1) 1 13 (ct_8672 1)), (wJ g (rr 2) 1 13 (ct_8672 2)), (wJ g (rr 3) 1 13 (ct_8672 3)), (wJ g (rr 4) 1 13 (ct_8672 4)), (wJ g (rr 5) 1 13 (ct_8672 5)), (wJ g (rr 6) 1 13 (ct_8672 6)), (wJ g (rr 7) 1 13 (ct_8672 7)), (wJ g (rr 8) 1 13 (ct_8672 8)), (wJ g (rr 9) 1 13 (ct_8672 9)), (wJ g (rr 10) 1 13 (ct_8672 10)), (wJ g (rr 11) 1 13 (ct_8672 11))] H := hP
                            have hD : va_D A [(wO12 mm i_thrown m_s m_spare m_kept m_undone m_triedWay m_isKept i_undoMany m_tape i_length i_size i_p i_at i_token i_number i_letterMany i_fault i_faultAt m_letters i_isKnown m_choice m_row m_up m_low m_m m_bestUp m_bestLow m_replyUp m_replyLow m_worthUp m_worthLow m_bestWay i_seed m_told i_toldMany), (wR g m_m 5 12 (fun i => if i < 12 then some (rr i) else none)), (wJ g (rr 0) 1 13 (ct_8672 0)), (wJ g (rr 1) 1 13 (ct_8672 1)), (wJ g (rr 2) 1 13 (ct_8672 2)), (wJ g (rr 3) 1 13 (ct_8672 3)), (wJ g (rr 4) 1 13 (ct_8672 4)), (wJ g (rr 5) 1 13 (ct_8672 5)), (wJ g (rr 6) 1 13 (ct_8672 6)), (wJ g (rr 7) 1 13 (ct_8672 7)), (wJ g (rr 8) 1 13 (ct_8672 8)), (wJ g (rr 9) 1 13 (ct_8672 9)), (wJ g (rr 10) 1 13 (ct_8672 10)), (wJ g (rr 11) 1 13 (ct_8672 11))] := hD
                            have g_ct_8672 : ct_8672 = tup ct_8666 (x_8657.toInt.toNat) (x_8657.toInt.toNat) w_8671 := ct_8672_e.trans (tup_cg (rfl : (x_8657 : Int32).toNatClampNeg = x_8657.toInt.toNat) (rfl : (x_8657 : Int32).toNatClampNeg = x_8657.toInt.toNat))
                            obtain ⟨v_8673, v_8673_e⟩ : ∃ y : Int32, y = x_8657 + Int32.ofInt 1 := ⟨_, rfl⟩
                            have h_v_8673 : 1 ≤ (v_8673 : Int32).toInt ∧ (v_8673 : Int32).toInt ≤ 11 := by rw [v_8673_e]; exact tr_add h_8668 (⟨by decide, by decide⟩ : 1 ≤ (Int32.ofInt 1 : Int32).toInt ∧ (Int32.ofInt 1 : Int32).toInt ≤ 1) (by decide) (by decide) (by decide) (by decide)
                            have q_v_8673 : v_8673.toInt = x_8657.toInt + 1 := by rw [v_8673_e]; exact tr_addE h_8668 (⟨by decide, by decide⟩ : 1 ≤ (Int32.ofInt 1 : Int32).toInt ∧ (Int32.ofInt 1 : Int32).toInt ≤ 1) (by decide) (by decide)
                            refine lv_iinc (v := v_8673) (lv' := [(6, .int v_8673), (5, .int x_8365), (4, .int x_8365), (2, .long x_8366), (0, .ref mm), (1, .int p0)]) hx hb dX12_solves_261 hl (k := 0) rfl v_8673_e.symm (by decide) rfl (fun ls hl => ?_)
                            refine lv_goto (tgt := 207) hx hb dX12_solves_264 (by decide) ?_
                            exact ih_8659 v_8673 ct_8672 H _ ls (tr_w h_v_8673 (by decide) (by decide)) (SZ_two hE hr8659_0 (by omega) (by omega) (by omega) (by decide) g_ct_8666 g_w_8671 g_ct_8672) (by omega) (hP.sub [0, 1, 2, 3, 4, 5, 6, 7, 8, 9, 10, 11, 12, 13] rfl) (hD.sub [0, 1, 2, 3, 4, 5, 6, 7, 8, 9, 10, 11, 12, 13] (by decide) rfl) hS (lv_sub hl [0, 1, 2, 3, 4, 5] rfl)
                        · skip
                          have c_8665_i : (x_8657 : Int32).toInt = (x_8365 : Int32).toInt := congrArg Int32.toInt c_8665
                          refine lv_goto (tgt := 261) hx hb dX12_solves_220 (by decide) ?_
                          obtain ⟨v_8674, v_8674_e⟩ : ∃ y : Int32, y = x_8657 + Int32.ofInt 1 := ⟨_, rfl⟩
                          have h_v_8674 : 1 ≤ (v_8674 : Int32).toInt ∧ (v_8674 : Int32).toInt ≤ 12 := by rw [v_8674_e]; exact tr_add h_8662 (⟨by decide, by decide⟩ : 1 ≤ (Int32.ofInt 1 : Int32).toInt ∧ (Int32.ofInt 1 : Int32).toInt ≤ 1) (by decide) (by decide) (by decide) (by decide)
                          have q_v_8674 : v_8674.toInt = x_8657.toInt + 1 := by rw [v_8674_e]; exact tr_addE h_8662 (⟨by decide, by decide⟩ : 1 ≤ (Int32.ofInt 1 : Int32).toInt ∧ (Int32.ofInt 1 : Int32).toInt ≤ 1) (by decide) (by decide)
                          refine lv_iinc (v := v_8674) (lv' := [(6, .int v_8674), (5, .int x_8365), (4, .int x_8365), (2, .long x_8366), (0, .ref mm), (1, .int p0)]) hx hb dX12_solves_261 hl (k := 0) rfl v_8674_e.symm (by decide) rfl (fun ls hl => ?_)
                          refine lv_goto (tgt := 207) hx hb dX12_solves_264 (by decide) ?_
                          exact ih_8659 v_8674 ct_8658 H _ ls (tr_w h_v_8674 (by decide) (by decide)) (SZ_skip hE hr8659_0 (by (first | (clear h_v_8373 z_8375 h_x_8618 h_8622; omega) | omega)) (by (first | (clear h_v_8373 z_8375 h_x_8618 h_8622; omega) | omega)) (by (first | (clear h_v_8373 z_8375 h_x_8618 h_8622; omega) | omega))) (by (first | (clear h_v_8373 z_8375 h_x_8618 h_8622; omega) | omega)) (hP.sub [0, 1, 2, 3, 4, 5, 6, 7, 8, 9, 10, 11, 12, 13] rfl) (hD.sub [0, 1, 2, 3, 4, 5, 6, 7, 8, 9, 10, 11, 12, 13] (by decide) rfl) hS (lv_sub hl [0, 1, 2, 3, 4, 5] rfl)
                  exact lp_8659 13 0 ct_8619 H _ ls (⟨by decide, by decide⟩ : 0 ≤ (0 : Int32).toInt ∧ (0 : Int32).toInt ≤ 12) (SZ_start hr8620_0 (by (first | (clear h_p0 h_x_8365 c_8369_i h_8370 h_8371 g_w_8372 h_v_8373 z_8375 c_8377_i c_8378_i h_x_8618 c_8621_i h_8622; omega) | omega))) (by decide) (hP.sub [0, 1, 2, 3, 4, 5, 6, 7, 8, 9, 10, 11, 12, 13] rfl) (hD.sub [0, 1, 2, 3, 4, 5, 6, 7, 8, 9, 10, 11, 12, 13] (by decide) rfl) hS (lv_sub hl [0, 1, 2, 3, 4, 5] rfl)
                · skip
                  have c_8621_i := Int32.lt_iff_toInt_lt.mp (Int32.not_le.mp c_8621)
                  have h_8623 : 0 ≤ (x_8618 : Int32).toInt ∧ (x_8618 : Int32).toInt ≤ 11 := nr_lt_l h_x_8618 h_8371 c_8621_i (by decide) (by decide)
                  refine lv_iload_n hx hb dX12_solves_112 rfl (lv_at hl 5 rfl) ?_
                  refine lv_istore (lv' := [(7, .int p0), (6, .int x_8618), (5, .int x_8365), (4, .int x_8365), (2, .long x_8366), (0, .ref mm), (1, .int p0)]) hx hb dX12_solves_113 hl (by decide) rfl (fun ls hl => ?_)
                  have lp_8720 : ∀ (n_8720 : Nat) (x_8718 : Int32) (ct_8719 : Nat → Nat → Int64) (H : Heap) (locs : List Loc) (ls : Array Slot), ((-1) ≤ (x_8718 : Int32).toInt ∧ (x_8718 : Int32).toInt ≤ 12) → (SY (p0 : Int32).toInt.toNat (tI ct) x_8365.toInt.toNat x_8618.toInt.toNat (x_8718 : Int32).toInt ct_8719) → (x_8718.toInt - (-1) < (n_8720 : Int)) → va_P D vwCl [(wO12 mm i_thrown m_s m_spare m_kept m_undone m_triedWay m_isKept i_undoMany m_tape i_length i_size i_p i_at i_token i_number i_letterMany i_fault i_faultAt m_letters i_isKnown m_choice m_row m_up m_low m_m m_bestUp m_bestLow m_replyUp m_replyLow m_worthUp m_worthLow m_bestWay i_seed m_told i_toldMany), (wR g m_m 5 12 (fun i => if i < 12 then some (rr i) else none)), (wJ g (rr 0) 1 13 (ct_8719 0)), (wJ g (rr 1) 1 13 (ct_8719 1)), (wJ g (rr 2) 1 13 (ct_8719 2)), (wJ g (rr 3) 1 13 (ct_8719 3)), (wJ g (rr 4) 1 13 (ct_8719 4)), (wJ g (rr 5) 1 13 (ct_8719 5)), (wJ g (rr 6) 1 13 (ct_8719 6)), (wJ g (rr 7) 1 13 (ct_8719 7)), (wJ g (rr 8) 1 13 (ct_8719 8)), (wJ g (rr 9) 1 13 (ct_8719 9)), (wJ g (rr 10) 1 13 (ct_8719 10)), (wJ g (rr 11) 1 13 (ct_8719 11))] H → va_D A [(wO12 mm i_thrown m_s m_spare m_kept m_undone m_triedWay m_isKept i_undoMany m_tape i_length i_size i_p i_at i_token i_number i_letterMany i_fault i_faultAt m_letters i_isKnown m_choice m_row m_up m_low m_m m_bestUp m_bestLow m_replyUp m_replyLow m_worthUp m_worthLow m_bestWay i_seed m_told i_toldMany), (wR g m_m 5 12 (fun i => if i < 12 then some (rr i) else none)), (wJ g (rr 0) 1 13 (ct_8719 0)), (wJ g (rr 1) 1 13 (ct_8719 1)), (wJ g (rr 2) 1 13 (ct_8719 2)), (wJ g (rr 3) 1 13 (ct_8719 3)), (wJ g (rr 4) 1 13 (ct_8719 4)), (wJ g (rr 5) 1 13 (ct_8719 5)), (wJ g (rr 6) 1 13 (ct_8719 6)), (wJ g (rr 7) 1 13 (ct_8719 7)), (wJ g (rr 8) 1 13 (ct_8719 8)), (wJ g (rr 9) 1 13 (ct_8719 9)), (wJ g (rr 10) 1 13 (ct_8719 10)), (wJ g (rr 11) 1 13 (ct_8719 11))] → va_S A s.heap H locs → lv_has ls 9 [(7, .int x_8718), (6, .int x_8618), (5, .int x_8365), (4, .int x_8365), (2, .long x_8366), (0, .ref mm), (1, .int p0)] → W p l e (headSpec (.code yX12_solves cX12_solves 9 (some .long) :: wsL_law) ({ frames := 0, cells := 0, slots := 0, locals := 0 })).room s m args below meth c H locs 0 0 (MQ below (va_Ql (fun (r u : Int64) => u = r ∧ (True)) (fun r t => ∃ oct : Nat → Nat → Int64, (SM (p0 : Int32).toInt.toNat (tI ct) (p0 : Int32).toInt.toNat oct) ∧ ((r : Int64).toInt = eb (tI ct) (p0 : Int32).toInt.toNat) ∧ va_P D vwCl [(wO12 mm i_thrown m_s m_spare m_kept m_undone m_triedWay m_isKept i_undoMany m_tape i_length i_size i_p i_at i_token i_number i_letterMany i_fault i_faultAt m_letters i_isKnown m_choice m_row m_up m_low m_m m_bestUp m_bestLow m_replyUp m_replyLow m_worthUp m_worthLow m_bestWay i_seed m_told i_toldMany), (wR g m_m 5 12 (fun i => if i < 12 then some (rr i) else none)), (wJ g (rr 0) 1 13 (oct 0)), (wJ g (rr 1) 1 13 (oct 1)), (wJ g (rr 2) 1 13 (oct 2)), (wJ g (rr 3) 1 13 (oct 3)), (wJ g (rr 4) 1 13 (oct 4)), (wJ g (rr 5) 1 13 (oct 5)), (wJ g (rr 6) 1 13 (oct 6)), (wJ g (rr 7) 1 13 (oct 7)), (wJ g (rr 8) 1 13 (oct 8)), (wJ g (rr 9) 1 13 (oct 9)), (wJ g (rr 10) 1 13 (oct 10)), (wJ g (rr 11) 1 13 (oct 11))] t.heap ∧ va_D A [(wO12 mm i_thrown m_s m_spare m_kept m_undone m_triedWay m_isKept i_undoMany m_tape i_length i_size i_p i_at i_token i_number i_letterMany i_fault i_faultAt m_letters i_isKnown m_choice m_row m_up m_low m_m m_bestUp m_bestLow m_replyUp m_replyLow m_worthUp m_worthLow m_bestWay i_seed m_told i_toldMany), (wR g m_m 5 12 (fun i => if i < 12 then some (rr i) else none)), (wJ g (rr 0) 1 13 (oct 0)), (wJ g (rr 1) 1 13 (oct 1)), (wJ g (rr 2) 1 13 (oct 2)), (wJ g (rr 3) 1 13 (oct 3)), (wJ g (rr 4) 1 13 (oct 4)), (wJ g (rr 5) 1 13 (oct 5)), (wJ g (rr 6) 1 13 (oct 6)), (wJ g (rr 7) 1 13 (oct 7)), (wJ g (rr 8) 1 13 (oct 8)), (wJ g (rr 9) 1 13 (oct 9)), (wJ g (rr 10) 1 13 (oct 10)), (wJ g (rr 11) 1 13 (oct 11))]) A) args s 0 0 A) (F0 m 115 ls []) := by
                    intro n_8720
                    induction n_8720 with
                    | zero =>
                      intro x_8718 ct_8719 H locs ls h_x_8718 hr8720_0 hm_8720 hP hD hS hl
                      exfalso; omega
                    | succ n_8720 ih_8720 =>
                      intro x_8718 ct_8719 H locs ls h_x_8718 hr8720_0 hm_8720 hP hD hS hl
                      refine lv_iload hx hb dX12_solves_115 (lv_at hl 0 rfl) ?_
                      refine lv_if_lt (tgt := 198) hx hb dX12_solves_117 (by decide) (fun c_8721 => ?_) (fun c_8721 => ?_)
                      · skip
                        have c_8721_i := Int32.lt_iff_toInt_lt.mp c_8721
                        have h_8722 : (-1) ≤ (x_8718 : Int32).toInt ∧ (x_8718 : Int32).toInt ≤ (-1) := nr_lt_l h_x_8718 (⟨by decide, by decide⟩ : 0 ≤ (0 : Int32).toInt ∧ (0 : Int32).toInt ≤ 0) c_8721_i (by decide) (by decide)
                        obtain ⟨v_8724, v_8724_e⟩ : ∃ y : Int32, y = x_8618 + Int32.ofInt 1 := ⟨_, rfl⟩
                        have h_v_8724 : 1 ≤ (v_8724 : Int32).toInt ∧ (v_8724 : Int32).toInt ≤ 12 := by rw [v_8724_e]; exact tr_add h_8623 (⟨by decide, by decide⟩ : 1 ≤ (Int32.ofInt 1 : Int32).toInt ∧ (Int32.ofInt 1 : Int32).toInt ≤ 1) (by decide) (by decide) (by decide) (by decide)
                        have q_v_8724 : v_8724.toInt = x_8618.toInt + 1 := by rw [v_8724_e]; exact tr_addE h_8623 (⟨by decide, by decide⟩ : 1 ≤ (Int32.ofInt 1 : Int32).toInt ∧ (Int32.ofInt 1 : Int32).toInt ≤ 1) (by decide) (by decide)
                        refine lv_iinc (v := v_8724) (lv' := [(6, .int v_8724), (7, .int x_8718), (5, .int x_8365), (4, .int x_8365), (2, .long x_8366), (0, .ref mm), (1, .int p0)]) hx hb dX12_solves_198 hl (k := 1) rfl v_8724_e.symm (by decide) rfl (fun ls hl => ?_)
                        refine lv_goto (tgt := 106) hx hb dX12_solves_201 (by decide) ?_
                        exact ih_8620 v_8724 ct_8719 H _ ls (tr_w h_v_8724 (by decide) (by decide)) (SY_row hr8720_0 (by have z_0 := tk_0; (first | (clear h_x_8365 h_8370 g_w_8372 h_v_8373 z_8375 c_8378_i h_x_8718 c_8721_i h_8722; omega) | omega)) (by (first | (clear h_x_8365 h_8370 g_w_8372 h_v_8373 z_8375 c_8378_i h_x_8718 c_8721_i h_8722; omega) | omega)) (by (first | (clear h_x_8365 h_8370 g_w_8372 h_v_8373 z_8375 c_8378_i h_x_8718 c_8721_i h_8722; omega) | omega))) (by (first | (clear h_x_8365 h_8370 g_w_8372 h_v_8373 z_8375 c_8378_i h_x_8718 c_8721_i h_8722; omega) | omega)) (hP.sub [0, 1, 2, 3, 4, 5, 6, 7, 8, 9, 10, 11, 12, 13] rfl) (hD.sub [0, 1, 2, 3, 4, 5, 6, 7, 8, 9, 10, 11, 12, 13] (by decide) rfl) hS (lv_sub hl [0, 2, 3, 4, 5, 6] rfl)
                      · skip
                        have c_8721_i := Int32.le_iff_toInt_le.mp (Int32.not_lt.mp c_8721)
                        have h_8723 : 0 ≤ (x_8718 : Int32).toInt ∧ (x_8718 : Int32).toInt ≤ 12 := nr_le_r (⟨by decide, by decide⟩ : 0 ≤ (0 : Int32).toInt ∧ (0 : Int32).toInt ≤ 0) h_x_8718 c_8721_i (by decide) (by decide)
                        refine lv_iload hx hb dX12_solves_120 (lv_at hl 1 rfl) ?_
                        refine lv_iload hx hb dX12_solves_122 (lv_at hl 3 rfl) ?_
                        refine lv_icmp_eq (tgt := 192) hx hb dX12_solves_124 (by decide) (fun c_8725 => ?_) (fun c_8725 => ?_)
                        · skip
                          have c_8725_i : (x_8618 : Int32).toInt = (x_8365 : Int32).toInt := congrArg Int32.toInt c_8725
                          obtain ⟨v_8726, v_8726_e⟩ : ∃ y : Int32, y = x_8718 + Int32.ofInt (-1) := ⟨_, rfl⟩
                          have h_v_8726 : (-1) ≤ (v_8726 : Int32).toInt ∧ (v_8726 : Int32).toInt ≤ 11 := by rw [v_8726_e]; exact tr_add h_8723 (⟨by decide, by decide⟩ : (-1) ≤ (Int32.ofInt (-1) : Int32).toInt ∧ (Int32.ofInt (-1) : Int32).toInt ≤ (-1)) (by decide) (by decide) (by decide) (by decide)
                          have q_v_8726 : v_8726.toInt = x_8718.toInt + (-1) := by rw [v_8726_e]; exact tr_addE h_8723 (⟨by decide, by decide⟩ : (-1) ≤ (Int32.ofInt (-1) : Int32).toInt ∧ (Int32.ofInt (-1) : Int32).toInt ≤ (-1)) (by decide) (by decide)
                          refine lv_iinc (v := v_8726) (lv' := [(7, .int v_8726), (6, .int x_8618), (5, .int x_8365), (4, .int x_8365), (2, .long x_8366), (0, .ref mm), (1, .int p0)]) hx hb dX12_solves_192 hl (k := 0) rfl v_8726_e.symm (by decide) rfl (fun ls hl => ?_)
                          refine lv_goto (tgt := 115) hx hb dX12_solves_195 (by decide) ?_
                          exact ih_8720 v_8726 ct_8719 H _ ls (tr_w h_v_8726 (by decide) (by decide)) (SY_skip hr8720_0 (by (first | (clear h_p0 h_x_8365 c_8369_i h_8370 h_8371 g_w_8372 h_v_8373 z_8375 c_8377_i c_8378_i h_x_8618 c_8621_i h_8623 c_8725_i; omega) | omega)) (by (first | (clear h_p0 h_x_8365 c_8369_i h_8370 h_8371 g_w_8372 h_v_8373 z_8375 c_8377_i c_8378_i h_x_8618 c_8621_i h_8623 c_8725_i; omega) | omega))) (by (first | (clear h_p0 h_x_8365 c_8369_i h_8370 h_8371 g_w_8372 h_v_8373 z_8375 c_8377_i c_8378_i h_x_8618 c_8621_i h_8623 c_8725_i; omega) | omega)) (hP.sub [0, 1, 2, 3, 4, 5, 6, 7, 8, 9, 10, 11, 12, 13] rfl) (hD.sub [0, 1, 2, 3, 4, 5, 6, 7, 8, 9, 10, 11, 12, 13] (by decide) rfl) hS (lv_sub hl [0, 1, 2, 3, 4, 5, 6] rfl)
                        · skip
                          have c_8725_i : ¬ (x_8618 : Int32).toInt = (x_8365 : Int32).toInt := (fun q => c_8725 (Int32.toInt_inj.mp q))
                          refine lv_iload hx hb dX12_solves_127 (lv_at hl 0 rfl) ?_
                          refine lv_iload hx hb dX12_solves_129 (lv_at hl 3 rfl) ?_
                          refine lv_icmp_ne (tgt := 137) hx hb dX12_solves_131 (by decide) (fun c_8727 => ?_) (fun c_8727 => ?_)
                          · skip
                            have c_8727_i : ¬ (x_8718 : Int32).toInt = (x_8365 : Int32).toInt := (fun q => c_8727 (Int32.toInt_inj.mp q))
                            refine lv_aload_n hx hb dX12_solves_137 rfl (lv_at hl 5 rfl) ?_
                            refine va_get (D := D) (ci := 12) (v := .ref m_m) (C := RX12) (T := TX12) (N := 35) hx hb hts inlX12 hown hK hP 0 rfl rfl 24 (by decide) (hts (Cond.fieldLink RX12 55 "ChanceRingsModel" "m" "[[J") qw_130) (fun _ h9 => h9) rfl dX12_solves_138 ?_
                            refine lv_iload hx hb dX12_solves_141 (lv_at hl 1 rfl) ?_
                            refine va_ald2 hx hb hK hP 1 5 rfl rfl (tr_in h_8623 (by decide) (by decide)) dX12_solves_143 ?_
                            refine tz_v (y := .ref (rr (x_8618 : Int32).toNatClampNeg)) (tz_row rfl (tr_cl (tr_in h_8623 (by decide) (by decide)))) ?_
                            refine lv_iload hx hb dX12_solves_144 (lv_at hl 0 rfl) ?_
                            refine lv_aload_n hx hb dX12_solves_146 rfl (lv_at hl 5 rfl) ?_
                            refine va_get (D := D) (ci := 12) (v := .ref m_m) (C := RX12) (T := TX12) (N := 35) hx hb hts inlX12 hown hK hP 0 rfl rfl 24 (by decide) (hts (Cond.fieldLink RX12 55 "ChanceRingsModel" "m" "[[J") qw_130) (fun _ h9 => h9) rfl dX12_solves_147 ?_
                            refine lv_iload hx hb dX12_solves_150 (lv_at hl 1 rfl) ?_
                            refine va_ald2 hx hb hK hP 1 5 rfl rfl (tr_in h_8623 (by decide) (by decide)) dX12_solves_152 ?_
                            refine tz_v (y := .ref (rr (x_8618 : Int32).toNatClampNeg)) (tz_row rfl (tr_cl (tr_in h_8623 (by decide) (by decide)))) ?_
                            refine lv_iload hx hb dX12_solves_153 (lv_at hl 0 rfl) ?_
                            refine tq_ald12 (WS := (fun ct9 : Nat → Nat → Int64 => [(wO12 mm i_thrown m_s m_spare m_kept m_undone m_triedWay m_isKept i_undoMany m_tape i_length i_size i_p i_at i_token i_number i_letterMany i_fault i_faultAt m_letters i_isKnown m_choice m_row m_up m_low m_m m_bestUp m_bestLow m_replyUp m_replyLow m_worthUp m_worthLow m_bestWay i_seed m_told i_toldMany), (wR g m_m 5 12 (fun i => if i < 12 then some (rr i) else none)), (wJ g (rr 0) 1 13 (ct9 0)), (wJ g (rr 1) 1 13 (ct9 1)), (wJ g (rr 2) 1 13 (ct9 2)), (wJ g (rr 3) 1 13 (ct9 3)), (wJ g (rr 4) 1 13 (ct9 4)), (wJ g (rr 5) 1 13 (ct9 5)), (wJ g (rr 6) 1 13 (ct9 6)), (wJ g (rr 7) 1 13 (ct9 7)), (wJ g (rr 8) 1 13 (ct9 8)), (wJ g (rr 9) 1 13 (ct9 9)), (wJ g (rr 10) 1 13 (ct9 10)), (wJ g (rr 11) 1 13 (ct9 11))])) (ct := ct_8719) hx hb hK hP 2 (fun ct i hi => by rcases nr_12 hi with rfl | rfl | rfl | rfl | rfl | rfl | rfl | rfl | rfl | rfl | rfl | rfl <;> rfl) (tr_in h_8623 (by decide) (by decide)) (tr_in h_8723 (by decide) (by decide)) dX12_solves_155 ?_
                            refine lv_topl (fun w_8729 w_8729_e => ?_)
                            have g_w_8729 : w_8729 = ct_8719 (x_8618.toInt.toNat) (x_8718.toInt.toNat) := w_8729_e.trans (congr (congrArg ct_8719 (rfl : (x_8618 : Int32).toNatClampNeg = x_8618.toInt.toNat)) (rfl : (x_8718 : Int32).toNatClampNeg = x_8718.toInt.toNat))
                            refine lv_aload_n hx hb dX12_solves_156 rfl (lv_at hl 5 rfl) ?_
                            refine va_get (D := D) (ci := 12) (v := .ref m_m) (C := RX12) (T := TX12) (N := 35) hx hb hts inlX12 hown hK hP 0 rfl rfl 24 (by decide) (hts (Cond.fieldLink RX12 55 "ChanceRingsModel" "m" "[[J") qw_130) (fun _ h9 => h9) rfl dX12_solves_157 ?_
                            refine lv_iload hx hb dX12_solves_160 (lv_at hl 3 rfl) ?_
                            refine va_ald2 hx hb hK hP 1 5 rfl rfl (tr_in h_8370 (by decide) (by decide)) dX12_solves_162 ?_
                            refine tz_v (y := .ref (rr (x_8365 : Int32).toNatClampNeg)) (tz_row rfl (tr_cl (tr_in h_8370 (by decide) (by decide)))) ?_
                            refine lv_iload hx hb dX12_solves_163 (lv_at hl 3 rfl) ?_
                            refine tq_ald12 (WS := (fun ct9 : Nat → Nat → Int64 => [(wO12 mm i_thrown m_s m_spare m_kept m_undone m_triedWay m_isKept i_undoMany m_tape i_length i_size i_p i_at i_token i_number i_letterMany i_fault i_faultAt m_letters i_isKnown m_choice m_row m_up m_low m_m m_bestUp m_bestLow m_replyUp m_replyLow m_worthUp m_worthLow m_bestWay i_seed m_told i_toldMany), (wR g m_m 5 12 (fun i => if i < 12 then some (rr i) else none)), (wJ g (rr 0) 1 13 (ct9 0)), (wJ g (rr 1) 1 13 (ct9 1)), (wJ g (rr 2) 1 13 (ct9 2)), (wJ g (rr 3) 1 13 (ct9 3)), (wJ g (rr 4) 1 13 (ct9 4)), (wJ g (rr 5) 1 13 (ct9 5)), (wJ g (rr 6) 1 13 (ct9 6)), (wJ g (rr 7) 1 13 (ct9 7)), (wJ g (rr 8) 1 13 (ct9 8)), (wJ g (rr 9) 1 13 (ct9 9)), (wJ g (rr 10) 1 13 (ct9 10)), (wJ g (rr 11) 1 13 (ct9 11))])) (ct := ct_8719) hx hb hK hP 2 (fun ct i hi => by rcases nr_12 hi with rfl | rfl | rfl | rfl | rfl | rfl | rfl | rfl | rfl | rfl | rfl | rfl <;> rfl) (tr_in h_8370 (by decide) (by decide)) (tr_in h_8370 (by decide) (by decide)) dX12_solves_165 ?_
                            refine lv_topl (fun w_8730 w_8730_e => ?_)
                            have g_w_8730 : w_8730 = ct_8719 (x_8365.toInt.toNat) (x_8365.toInt.toNat) := w_8730_e.trans (congr (congrArg ct_8719 (rfl : (x_8365 : Int32).toNatClampNeg = x_8365.toInt.toNat)) (rfl : (x_8365 : Int32).toNatClampNeg = x_8365.toInt.toNat))
                            refine lv_lmul hx hb dX12_solves_166 ?_
                            refine lv_topl (fun w_8731 w_8731_e => ?_)
                            refine lv_aload_n hx hb dX12_solves_167 rfl (lv_at hl 5 rfl) ?_
                            refine va_get (D := D) (ci := 12) (v := .ref m_m) (C := RX12) (T := TX12) (N := 35) hx hb hts inlX12 hown hK hP 0 rfl rfl 24 (by decide) (hts (Cond.fieldLink RX12 55 "ChanceRingsModel" "m" "[[J") qw_130) (fun _ h9 => h9) rfl dX12_solves_168 ?_
                            refine lv_iload hx hb dX12_solves_171 (lv_at hl 1 rfl) ?_
                            refine va_ald2 hx hb hK hP 1 5 rfl rfl (tr_in h_8623 (by decide) (by decide)) dX12_solves_173 ?_
                            refine tz_v (y := .ref (rr (x_8618 : Int32).toNatClampNeg)) (tz_row rfl (tr_cl (tr_in h_8623 (by decide) (by decide)))) ?_
                            refine lv_iload hx hb dX12_solves_174 (lv_at hl 3 rfl) ?_
                            refine tq_ald12 (WS := (fun ct9 : Nat → Nat → Int64 => [(wO12 mm i_thrown m_s m_spare m_kept m_undone m_triedWay m_isKept i_undoMany m_tape i_length i_size i_p i_at i_token i_number i_letterMany i_fault i_faultAt m_letters i_isKnown m_choice m_row m_up m_low m_m m_bestUp m_bestLow m_replyUp m_replyLow m_worthUp m_worthLow m_bestWay i_seed m_told i_toldMany), (wR g m_m 5 12 (fun i => if i < 12 then some (rr i) else none)), (wJ g (rr 0) 1 13 (ct9 0)), (wJ g (rr 1) 1 13 (ct9 1)), (wJ g (rr 2) 1 13 (ct9 2)), (wJ g (rr 3) 1 13 (ct9 3)), (wJ g (rr 4) 1 13 (ct9 4)), (wJ g (rr 5) 1 13 (ct9 5)), (wJ g (rr 6) 1 13 (ct9 6)), (wJ g (rr 7) 1 13 (ct9 7)), (wJ g (rr 8) 1 13 (ct9 8)), (wJ g (rr 9) 1 13 (ct9 9)), (wJ g (rr 10) 1 13 (ct9 10)), (wJ g (rr 11) 1 13 (ct9 11))])) (ct := ct_8719) hx hb hK hP 2 (fun ct i hi => by rcases nr_12 hi with rfl | rfl | rfl | rfl | rfl | rfl | rfl | rfl | rfl | rfl | rfl | rfl <;> rfl) (tr_in h_8623 (by decide) (by decide)) (tr_in h_8370 (by decide) (by decide)) dX12_solves_176 ?_
                            refine lv_topl (fun w_8732 w_8732_e => ?_)
                            have g_w_8732 : w_8732 = ct_8719 (x_8618.toInt.toNat) (x_8365.toInt.toNat) := w_8732_e.trans (congr (congrArg ct_8719 (rfl : (x_8618 : Int32).toNatClampNeg = x_8618.toInt.toNat)) (rfl : (x_8365 : Int32).toNatClampNeg = x_8365.toInt.toNat))
                            refine lv_aload_n hx hb dX12_solves_177 rfl (lv_at hl 5 rfl) ?_
                            refine va_get (D := D) (ci := 12) (v := .ref m_m) (C := RX12) (T := TX12) (N := 35) hx hb hts inlX12 hown hK hP 0 rfl rfl 24 (by decide) (hts (Cond.fieldLink RX12 55 "ChanceRingsModel" "m" "[[J") qw_130) (fun _ h9 => h9) rfl dX12_solves_178 ?_
                            refine lv_iload hx hb dX12_solves_181 (lv_at hl 3 rfl) ?_
                            refine va_ald2 hx hb hK hP 1 5 rfl rfl (tr_in h_8370 (by decide) (by decide)) dX12_solves_183 ?_
                            refine tz_v (y := .ref (rr (x_8365 : Int32).toNatClampNeg)) (tz_row rfl (tr_cl (tr_in h_8370 (by decide) (by decide)))) ?_
                            refine lv_iload hx hb dX12_solves_184 (lv_at hl 0 rfl) ?_
                            refine tq_ald12 (WS := (fun ct9 : Nat → Nat → Int64 => [(wO12 mm i_thrown m_s m_spare m_kept m_undone m_triedWay m_isKept i_undoMany m_tape i_length i_size i_p i_at i_token i_number i_letterMany i_fault i_faultAt m_letters i_isKnown m_choice m_row m_up m_low m_m m_bestUp m_bestLow m_replyUp m_replyLow m_worthUp m_worthLow m_bestWay i_seed m_told i_toldMany), (wR g m_m 5 12 (fun i => if i < 12 then some (rr i) else none)), (wJ g (rr 0) 1 13 (ct9 0)), (wJ g (rr 1) 1 13 (ct9 1)), (wJ g (rr 2) 1 13 (ct9 2)), (wJ g (rr 3) 1 13 (ct9 3)), (wJ g (rr 4) 1 13 (ct9 4)), (wJ g (rr 5) 1 13 (ct9 5)), (wJ g (rr 6) 1 13 (ct9 6)), (wJ g (rr 7) 1 13 (ct9 7)), (wJ g (rr 8) 1 13 (ct9 8)), (wJ g (rr 9) 1 13 (ct9 9)), (wJ g (rr 10) 1 13 (ct9 10)), (wJ g (rr 11) 1 13 (ct9 11))])) (ct := ct_8719) hx hb hK hP 2 (fun ct i hi => by rcases nr_12 hi with rfl | rfl | rfl | rfl | rfl | rfl | rfl | rfl | rfl | rfl | rfl | rfl <;> rfl) (tr_in h_8370 (by decide) (by decide)) (tr_in h_8723 (by decide) (by decide)) dX12_solves_186 ?_
                            refine lv_topl (fun w_8733 w_8733_e => ?_)
                            have g_w_8733 : w_8733 = ct_8719 (x_8365.toInt.toNat) (x_8718.toInt.toNat) := w_8733_e.trans (congr (congrArg ct_8719 (rfl : (x_8365 : Int32).toNatClampNeg = x_8365.toInt.toNat)) (rfl : (x_8718 : Int32).toNatClampNeg = x_8718.toInt.toNat))
                            refine lv_lmul hx hb dX12_solves_187 ?_
                            refine lv_topl (fun w_8734 w_8734_e => ?_)
                            refine lv_lsub hx hb dX12_solves_188 ?_
                            refine lv_topl (fun w_8735 w_8735_e => ?_)
                            have nzb_8736 : ¬ x_8366 = 0 := tl_nz hr8368_1 (hE.bpos (by (first | (clear h_p0 h_i_undoMany h_i_length h_i_size h_i_p h_i_at h_i_token h_i_number h_i_letterMany h_i_faultAt h_i_isKnown h_i_toldMany hP h_x_8365 c_8369_i h_8370 h_8371 g_w_8372 h_v_8373 z_8375 c_8377_i c_8378_i h_x_8618 c_8621_i h_8623 h_x_8718 c_8721_i h_8723 c_8725_i c_8727_i g_w_8729 g_w_8730 g_w_8732 g_w_8733; omega) | omega)))
                            refine lv_lload_n hx hb dX12_solves_189 rfl (lv_at hl 4 rfl) ?_
                            refine lv_ldiv hx hb dX12_solves_190 nzb_8736 ?_
                            refine lv_topl (fun w_8737 w_8737_e => ?_)
                            refine tq_ast12 (WS := (fun ct9 : Nat → Nat → Int64 => [(wO12 mm i_thrown m_s m_spare m_kept m_undone m_triedWay m_isKept i_undoMany m_tape i_length i_size i_p i_at i_token i_number i_letterMany i_fault i_faultAt m_letters i_isKnown m_choice m_row m_up m_low m_m m_bestUp m_bestLow m_replyUp m_replyLow m_worthUp m_worthLow m_bestWay i_seed m_told i_toldMany), (wR g m_m 5 12 (fun i => if i < 12 then some (rr i) else none)), (wJ g (rr 0) 1 13 (ct9 0)), (wJ g (rr 1) 1 13 (ct9 1)), (wJ g (rr 2) 1 13 (ct9 2)), (wJ g (rr 3) 1 13 (ct9 3)), (wJ g (rr 4) 1 13 (ct9 4)), (wJ g (rr 5) 1 13 (ct9 5)), (wJ g (rr 6) 1 13 (ct9 6)), (wJ g (rr 7) 1 13 (ct9 7)), (wJ g (rr 8) 1 13 (ct9 8)), (wJ g (rr 9) 1 13 (ct9 9)), (wJ g (rr 10) 1 13 (ct9 10)), (wJ g (rr 11) 1 13 (ct9 11))])) (ct := ct_8719) (x := w_8737) hx hb hK hP hD hS 2 (fun ct i hi => by rcases nr_12 hi with rfl | rfl | rfl | rfl | rfl | rfl | rfl | rfl | rfl | rfl | rfl | rfl <;> rfl) (fun ct i f9 hi => by rcases nr_12 hi with rfl | rfl | rfl | rfl | rfl | rfl | rfl | rfl | rfl | rfl | rfl | rfl <;> rfl) (tr_in h_8623 (by decide) (by decide)) (tr_in h_8723 (by decide) (by decide)) dX12_solves_191 (fun ct_8738 ct_8738_e H locs hP hD hS => ?_)
                            have hP : va_P D vwCl [(wO12 mm i_thrown m_s m_spare m_kept m_undone m_triedWay m_isKept i_undoMany m_tape i_length i_size i_p i_at i_token i_number i_letterMany i_fault i_faultAt m_letters i_isKnown m_choice m_row m_up m_low m_m m_bestUp m_bestLow m_replyUp m_replyLow m_worthUp m_worthLow m_bestWay i_seed m_told i_toldMany), (wR g m_m 5 12 (fun i => if i < 12 then some (rr i) else none)), (wJ g (rr 0) 1 13 (ct_8738 0)), (wJ g (rr 1) 1 13 (ct_8738 1)), (wJ g (rr 2) 1 13 (ct_8738 2)), (wJ g (rr 3) 1 13 (ct_8738 3)), (wJ g (rr 4) 1 13 (ct_8738 4)), (wJ g (rr 5) 1 13 (ct_8738 5)), (wJ g (rr 6) 1 13 (ct_8738 6)), (wJ g (rr 7) 1 13 (ct_8738 7)), (wJ g (rr 8) 1 13 (ct_8738 8)), (wJ g (rr 9) 1 13 (ct_8738 9)), (wJ g (rr 10) 1 13 (ct_8738 10)), (wJ g (rr 11) 1 13 (ct_8738 11))] H := hP
                            have hD : va_D A [(wO12 mm i_thrown m_s m_spare m_kept m_undone m_triedWay m_isKept i_undoMany m_tape i_length i_size i_p i_at i_token i_number i_letterMany i_fault i_faultAt m_letters i_isKnown m_choice m_row m_up m_low m_m m_bestUp m_bestLow m_replyUp m_replyLow m_worthUp m_worthLow m_bestWay i_seed m_told i_toldMany), (wR g m_m 5 12 (fun i => if i < 12 then some (rr i) else none)), (wJ g (rr 0) 1 13 (ct_8738 0)), (wJ g (rr 1) 1 13 (ct_8738 1)), (wJ g (rr 2) 1 13 (ct_8738 2)), (wJ g (rr 3) 1 13 (ct_8738 3)), (wJ g (rr 4) 1 13 (ct_8738 4)), (wJ g (rr 5) 1 13 (ct_8738 5)), (wJ g (rr 6) 1 13 (ct_8738 6)), (wJ g (rr 7) 1 13 (ct_8738 7)), (wJ g (rr 8) 1 13 (ct_8738 8)), (wJ g (rr 9) 1 13 (ct_8738 9)), (wJ g (rr 10) 1 13 (ct_8738 10)), (wJ g (rr 11) 1 13 (ct_8738 11))] := hD
                            have g_ct_8738 : ct_8738 = tup ct_8719 (x_8618.toInt.toNat) (x_8718.toInt.toNat) w_8737 := ct_8738_e.trans (tup_cg (rfl : (x_8618 : Int32).toNatClampNeg = x_8618.toInt.toNat) (rfl : (x_8718 : Int32).toNatClampNeg = x_8718.toInt.toNat))
                            obtain ⟨v_8739, v_8739_e⟩ : ∃ y : Int32, y = x_8718 + Int32.ofInt (-1) := ⟨_, rfl⟩
                            have h_v_8739 : (-1) ≤ (v_8739 : Int32).toInt ∧ (v_8739 : Int32).toInt ≤ 11 := by rw [v_8739_e]; exact tr_add h_8723 (⟨by decide, by decide⟩ : (-1) ≤ (Int32.ofInt (-1) : Int32).toInt ∧ (Int32.ofInt (-1) : Int32).toInt ≤ (-1)) (by decide) (by decide) (by decide) (by decide)
                            have q_v_8739 : v_8739.toInt = x_8718.toInt + (-1) := by rw [v_8739_e]; exact tr_addE h_8723 (⟨by decide, by decide⟩ : (-1) ≤ (Int32.ofInt (-1) : Int32).toInt ∧ (Int32.ofInt (-1) : Int32).toInt ≤ (-1)) (by decide) (by decide)
                            refine lv_iinc (v := v_8739) (lv' := [(7, .int v_8739), (6, .int x_8618), (5, .int x_8365), (4, .int x_8365), (2, .long x_8366), (0, .ref mm), (1, .int p0)]) hx hb dX12_solves_192 hl (k := 0) rfl v_8739_e.symm (by decide) rfl (fun ls hl => ?_)
                            refine lv_goto (tgt := 115) hx hb dX12_solves_195 (by decide) ?_
                            exact ih_8720 v_8739 ct_8738 H _ ls (tr_w h_v_8739 (by decide) (by decide)) (SY_put (J := x_8718.toInt.toNat) hr8720_0 (by omega) g_ct_8738 (fun hj9 => by rw [w_8737_e, w_8735_e, w_8731_e, w_8734_e]; exact SY_val hE hr8720_0 (by omega) hr8368_1 (by omega) (by omega) (by omega) g_w_8729 g_w_8730 g_w_8732 g_w_8733 hj9) (by omega) (by omega) (by omega)) (by omega) (hP.sub [0, 1, 2, 3, 4, 5, 6, 7, 8, 9, 10, 11, 12, 13] rfl) (hD.sub [0, 1, 2, 3, 4, 5, 6, 7, 8, 9, 10, 11, 12, 13] (by decide) rfl) hS (lv_sub hl [0, 1, 2, 3, 4, 5, 6] rfl)
                          · skip
                            have c_8727_i : (x_8718 : Int32).toInt = (x_8365 : Int32).toInt := congrArg Int32.toInt c_8727
                            have h_8728 : 0 ≤ (x_8718 : Int32).toInt ∧ (x_8718 : Int32).toInt ≤ 11 := nr_eq_l h_8723 h_8370 c_8727_i (by decide) (by decide)
                            refine lv_goto (tgt := 192) hx hb dX12_solves_134 (by decide) ?_
                            obtain ⟨v_8740, v_8740_e⟩ : ∃ y : Int32, y = x_8718 + Int32.ofInt (-1) := ⟨_, rfl⟩
                            have h_v_8740 : (-1) ≤ (v_8740 : Int32).toInt ∧ (v_8740 : Int32).toInt ≤ 10 := by rw [v_8740_e]; exact tr_add h_8728 (⟨by decide, by decide⟩ : (-1) ≤ (Int32.ofInt (-1) : Int32).toInt ∧ (Int32.ofInt (-1) : Int32).toInt ≤ (-1)) (by decide) (by decide) (by decide) (by decide)
                            have q_v_8740 : v_8740.toInt = x_8718.toInt + (-1) := by rw [v_8740_e]; exact tr_addE h_8728 (⟨by decide, by decide⟩ : (-1) ≤ (Int32.ofInt (-1) : Int32).toInt ∧ (Int32.ofInt (-1) : Int32).toInt ≤ (-1)) (by decide) (by decide)
                            refine lv_iinc (v := v_8740) (lv' := [(7, .int v_8740), (6, .int x_8618), (5, .int x_8365), (4, .int x_8365), (2, .long x_8366), (0, .ref mm), (1, .int p0)]) hx hb dX12_solves_192 hl (k := 0) rfl v_8740_e.symm (by decide) rfl (fun ls hl => ?_)
                            refine lv_goto (tgt := 115) hx hb dX12_solves_195 (by decide) ?_
                            exact ih_8720 v_8740 ct_8719 H _ ls (tr_w h_v_8740 (by decide) (by decide)) (SY_skip hr8720_0 (by (first | (clear h_p0 h_8371 h_v_8373 z_8375 c_8377_i h_x_8618 c_8621_i h_8623; omega) | omega)) (by (first | (clear h_p0 h_8371 h_v_8373 z_8375 c_8377_i h_x_8618 c_8621_i h_8623; omega) | omega))) (by (first | (clear h_p0 h_8371 h_v_8373 z_8375 c_8377_i h_x_8618 c_8621_i h_8623; omega) | omega)) (hP.sub [0, 1, 2, 3, 4, 5, 6, 7, 8, 9, 10, 11, 12, 13] rfl) (hD.sub [0, 1, 2, 3, 4, 5, 6, 7, 8, 9, 10, 11, 12, 13] (by decide) rfl) hS (lv_sub hl [0, 1, 2, 3, 4, 5, 6] rfl)
                  exact lp_8720 14 p0 ct_8619 H _ ls (tr_w h_8371 (by decide) (by decide)) hr8620_0 (by omega) (hP.sub [0, 1, 2, 3, 4, 5, 6, 7, 8, 9, 10, 11, 12, 13] rfl) (hD.sub [0, 1, 2, 3, 4, 5, 6, 7, 8, 9, 10, 11, 12, 13] (by decide) rfl) hS (lv_sub hl [0, 1, 2, 3, 4, 5, 6] rfl)
            exact lp_8620 13 0 ct_8367 H _ ls (⟨by decide, by decide⟩ : 0 ≤ (0 : Int32).toInt ∧ (0 : Int32).toInt ≤ 12) (SY_start hr8368_0 rfl (by omega)) (by decide) (hP.sub [0, 1, 2, 3, 4, 5, 6, 7, 8, 9, 10, 11, 12, 13] rfl) (hD.sub [0, 1, 2, 3, 4, 5, 6, 7, 8, 9, 10, 11, 12, 13] (by decide) rfl) hS (lv_sub hl [0, 1, 2, 3, 4, 5] rfl)
          · skip
            have c_8378_i : ¬ (x_8365 : Int32).toInt = (x_8365 : Int32).toInt := (fun q => c_8378 (Int32.toInt_inj.mp q))
            exact absurd rfl c_8378
        · skip
          have c_8374_i : (v_8373 : Int32).toInt = (0 : Int32).toInt := congrArg Int32.toInt c_8374
          have h_8376 : 0 ≤ (v_8373 : Int32).toInt ∧ (v_8373 : Int32).toInt ≤ 0 := nr_eq_l h_v_8373 (⟨by decide, by decide⟩ : 0 ≤ (0 : Int32).toInt ∧ (0 : Int32).toInt ≤ 0) c_8374_i (by decide) (by decide)
          exact absurd (tl_cmp0 (by rw [← v_8373_e]; exact c_8374)) (by have q9 := SM_piv hE hr8368_0 (by (first | (clear h_i_undoMany h_i_length h_i_size h_i_p h_i_at h_i_token h_i_number h_i_letterMany h_i_faultAt h_i_isKnown h_i_toldMany hP h_v_8373 c_8374_i h_8376; omega) | omega)); have q8 := congrArg Int64.toInt g_w_8372; (first | (clear h_i_undoMany h_i_length h_i_size h_i_p h_i_at h_i_token h_i_number h_i_letterMany h_i_faultAt h_i_isKnown h_i_toldMany hP h_v_8373 c_8374_i h_8376; omega) | omega))
  exact lp_8368 13 0 1 ct s.heap _ ls (⟨by decide, by decide⟩ : 0 ≤ (0 : Int32).toInt ∧ (0 : Int32).toInt ≤ 12) (SM_zero ct) (show (1 : Int64).toInt = eb (tI ct) 0 from (by rw [e_b0]; decide)) (by have z_0 := tk_0; omega) (by decide) (hP.sub [0, 1, 2, 3, 4, 5, 6, 7, 8, 9, 10, 11, 12, 13] rfl) (hD.sub [0, 1, 2, 3, 4, 5, 6, 7, 8, 9, 10, 11, 12, 13] (by decide) rfl) hS (lv_sub hl [0, 1, 2, 3] rfl)
/-! the rows that a play lays -/
abbrev wsel (f c : Nat → Int32) (k i : Nat) : Prop := (f (1 + k)).toInt = 3 ∨ (c k).toInt = (i : Int)
def wwt (f : Nat → Int32) (k i : Nat) : Int := if (f (1 + k)).toInt = 3 then (f (73 + 3 * k + i)).toInt else 1
def wtg (f : Nat → Int32) (k i : Nat) : Nat := (f (37 + 3 * k + i)).toInt.toNat
def gsm (f c : Nat → Int32) (k : Nat) (u : Nat → Int) : Nat → Int
  | 0 => 0
  | i + 1 => gsm f c k u i + (if wsel f c k i then wwt f k i * u (wtg f k i) else 0)
def gsR (f c : Nat → Int32) (k : Nat) (u : Nat → Rat) : Nat → Rat
  | 0 => 0
  | i + 1 => gsR f c k u i + (if wsel f c k i then ((wwt f k i : Int) : Rat) * u (wtg f k i) else 0)
def wys (f : Nat → Int32) (k : Nat) : Nat := (f (25 + k)).toInt.toNat
section GM
variable {f c : Nat → Int32} {k : Nat}
theorem gsR_cast (u : Nat → Int) : ∀ m, ((gsm f c k u m : Int) : Rat) = gsR f c k (fun t => ((u t : Int) : Rat)) m
  | 0 => rfl
  | m + 1 => by
    show ((gsm f c k u m + _ : Int) : Rat) = gsR f c k _ m + _
    rw [Rat.intCast_add, gsR_cast u m]
    by_cases q : wsel f c k m
    · rw [if_pos q, if_pos q, Rat.intCast_mul]
    · rw [if_neg q, if_neg q]; rfl
theorem gsR_lin (a : Rat) (u v : Nat → Rat) : ∀ m, gsR f c k (fun t => a * u t + v t) m = a * gsR f c k u m + gsR f c k v m
  | 0 => by show (0 : Rat) = a * 0 + 0; grind
  | m + 1 => by
    show gsR f c k _ m + _ = a * (gsR f c k u m + _) + (gsR f c k v m + _)
    rw [gsR_lin a u v m]
    by_cases q : wsel f c k m
    · rw [if_pos q, if_pos q, if_pos q]; grind
    · rw [if_neg q, if_neg q, if_neg q]; grind
theorem gsR_congr {u v : Nat → Rat} : ∀ m, (∀ i, i < m → wsel f c k i → u (wtg f k i) = v (wtg f k i)) → gsR f c k u m = gsR f c k v m
  | 0, _ => rfl
  | m + 1, h => by
    show gsR f c k u m + _ = gsR f c k v m + _
    rw [gsR_congr m (fun i hi => h i (by omega))]
    by_cases q : wsel f c k m
    · rw [if_pos q, if_pos q, h m (by omega) q]
    · rw [if_neg q, if_neg q]
theorem gsR_le {u v : Nat → Rat} : ∀ m, (∀ i, i < m → 0 ≤ wwt f k i) → (∀ i, i < m → wsel f c k i → u (wtg f k i) ≤ v (wtg f k i)) → gsR f c k u m ≤ gsR f c k v m
  | 0, _, _ => Rat.le_refl
  | m + 1, hw, h => by
    show gsR f c k u m + _ ≤ gsR f c k v m + _
    have ih := gsR_le m (fun i hi => hw i (by omega)) (fun i hi => h i (by omega))
    by_cases q : wsel f c k m
    · rw [if_pos q, if_pos q]
      have w0 : (0 : Rat) ≤ ((wwt f k m : Int) : Rat) := by exact_mod_cast hw m (by omega)
      have := Rat.mul_le_mul_of_nonneg_left (c := ((wwt f k m : Int) : Rat)) (h m (by omega) q) w0
      grind
    · rw [if_neg q, if_neg q]; grind
theorem gsR_zero : ∀ m, gsR f c k (fun _ => 0) m = 0
  | 0 => rfl
  | m + 1 => by
    show gsR f c k _ m + _ = 0
    rw [gsR_zero m]
    by_cases q : wsel f c k m
    · rw [if_pos q]; grind
    · rw [if_neg q]; grind
/-- one way's value lies lower: so much lower lies the sum -/
theorem gsR_gap {u : Nat → Rat} {e : Rat} {i0 : Nat} (he : 0 ≤ e) (hi : wsel f c k i0) : ∀ m, i0 < m → (∀ i, i < m → 1 ≤ wwt f k i) → (∀ i, i < m → wsel f c k i → u (wtg f k i) ≤ 1) → u (wtg f k i0) ≤ 1 - e → gsR f c k u m ≤ gsR f c k (fun _ => 1) m - e
  | 0, h, _, _, _ => absurd h (by omega)
  | m + 1, h, hw, hu, h0 => by
    show gsR f c k u m + _ ≤ gsR f c k _ m + _ - e
    have w1 : (1 : Rat) ≤ ((wwt f k m : Int) : Rat) := by exact_mod_cast hw m (by omega)
    by_cases q0 : i0 = m
    · subst q0
      rw [if_pos hi, if_pos hi]
      have ih := gsR_le (u := u) (v := fun _ => 1) (c := c) i0 (fun i hi => by have := hw i (by omega); omega) (fun i hi => hu i (by omega))
      have a1 := Rat.mul_le_mul_of_nonneg_left (c := ((wwt f k i0 : Int) : Rat)) h0 (by grind)
      have a2 := Rat.mul_le_mul_of_nonneg_right (c := e) w1 he
      grind
    · have ih := gsR_gap he hi m (by omega) (fun i hi => hw i (by omega)) (fun i hi => hu i (by omega)) h0
      by_cases q : wsel f c k m
      · rw [if_pos q, if_pos q]
        have a1 := Rat.mul_le_mul_of_nonneg_left (c := ((wwt f k m : Int) : Rat)) (hu m (by omega) q) (by grind)
        grind
      · rw [if_neg q, if_neg q]; grind
theorem gsm_one_chance (h : (f (1 + k)).toInt = 3) : ∀ m, gsm f c k (fun _ => 1) m = gw f k m
  | 0 => rfl
  | m + 1 => by
    show gsm f c k _ m + _ = gw f k m + _
    rw [gsm_one_chance h m, if_pos (Or.inl h)]
    unfold wwt
    rw [if_pos h]
    show gw f k m + (f (73 + 3 * k + m)).toInt * 1 = gw f k m + (f (73 + 3 * k + m)).toInt
    omega
theorem gsm_one_player (h : ¬ (f (1 + k)).toInt = 3) : ∀ m : Nat, gsm f c k (fun _ => 1) m = if 0 ≤ (c k).toInt ∧ (c k).toInt < (m : Int) then 1 else 0
  | 0 => by rw [if_neg (by omega)]; rfl
  | m + 1 => by
    show gsm f c k _ m + _ = _
    rw [gsm_one_player h m]
    by_cases q : wsel f c k m
    · rw [if_pos q]
      have q2 : (c k).toInt = (m : Int) := by rcases q with q | q; exact absurd q h; exact q
      unfold wwt
      rw [if_neg h, if_neg (by omega), if_pos (by omega)]
      rfl
    · rw [if_neg q]
      have q2 : ¬ (c k).toInt = (m : Int) := fun e => q (Or.inr e)
      by_cases q3 : 0 ≤ (c k).toInt ∧ (c k).toInt < (m : Int)
      · rw [if_pos q3, if_pos (by omega)]; omega
      · rw [if_neg q3, if_neg (by omega)]; omega
theorem gs_w1 (h : GS f) (hk : k < 12) {i : Nat} (hi : i < wys f k) : 1 ≤ wwt f k i ∧ wwt f k i ≤ 3 ∧ (wtg f k i : Int) < (f 0).toInt ∧ (wtg f k i : Int) = (f (37 + 3 * k + i)).toInt := by
  have h3 := (h.r.2.1 k hk).2.2.1
  have hi2 : (i : Int) < (f (25 + k)).toInt := by unfold wys at hi; omega
  have h4 := h.1.2.2.2.1 k i hk hi2
  have h5 := (h.r.2.2 (3 * k + i) (by omega))
  rw [← Nat.add_assoc, ← Nat.add_assoc] at h5
  unfold wwt wtg
  refine ⟨?_, ?_, by omega, by omega⟩
  · split <;> omega
  · split <;> omega
theorem gs_all (h : GS f) (hk : k < 12) : gsm f c k (fun _ => 1) (wys f k) ≤ (if (f (1 + k)).toInt = 3 then 4 else 1) ∧ 0 ≤ gsm f c k (fun _ => 1) (wys f k) := by
  by_cases q : (f (1 + k)).toInt = 3
  · rw [gsm_one_chance q, if_pos q]
    have h1 := h.1.2.2.2.2.1 k hk q
    refine ⟨h1, gw_nonneg _ (fun i hi => ?_)⟩
    have h3 := (h.r.2.1 k hk).2.2.1
    have h5 := (h.r.2.2 (3 * k + i) (by unfold wys at hi; omega)).2
    rw [← Nat.add_assoc] at h5
    exact h5.1
  · rw [gsm_one_player q, if_neg q]
    split <;> omega
end GM
/-- an end is come to in at most m moves -/
def RK (f c : Nat → Int32) : Nat → Nat → Prop
  | 0, k => (k : Int) < (f 0).toInt ∧ (f (1 + k)).toInt = 0
  | m + 1, k => RK f c m k ∨ ((k : Int) < (f 0).toInt ∧ ¬ (f (1 + k)).toInt = 0 ∧ ∃ j, ON f c k j ∧ RK f c m j)
def RC (f c : Nat → Int32) (k : Nat) : Prop := ∃ m, RK f c m k
theorem RC_closed (f c : Nat → Int32) : CL f c (RC f c) := fun k j h1 h2 h3 ⟨m, h4⟩ => ⟨m + 1, Or.inr ⟨h1, h2, j, h3, h4⟩⟩
theorem RC_of {f c : Nat → Int32} {x y : Int32} (hx : ∀ j : Nat, bt x j ↔ (j < (f 0).toInt.toNat ∧ (f (1 + j)).toInt = 0)) (h : LF f c x y ∧ CL f c (bt y)) (k : Nat) : bt y k ↔ RC f c k := by
  constructor
  · exact h.1.2 (RC f c) (fun j hj => ⟨0, by have := (hx j).mp hj; exact ⟨by omega, this.2⟩⟩) (RC_closed f c) k
  · rintro ⟨m, hm⟩
    induction m generalizing k with
    | zero => exact h.1.1 k ((hx k).mpr ⟨by have := hm.1; omega, hm.2⟩)
    | succ m ih =>
      rcases hm with hm | ⟨h1, h2, j, h3, h4⟩
      · exact ih k hm
      · exact h.2 k j h1 h2 h3 (ih j h4)
/-- how far an end is -/
theorem RC_rank (f c : Nat → Int32) : ∃ d : Nat → Nat, ∀ k, RC f c k → ¬ (f (1 + k)).toInt = 0 → 1 ≤ d k ∧ ∃ j, ON f c k j ∧ RC f c j ∧ d j + 1 ≤ d k := by
  have h : ∀ k, ∃ d : Nat, RC f c k → RK f c d k ∧ ∀ m, RK f c m k → d ≤ m := by
    intro k
    by_cases q : RC f c k
    · obtain ⟨m, hm⟩ := q
      induction m using Nat.strongRecOn with
      | _ m ih =>
        by_cases q2 : ∃ m2, m2 < m ∧ RK f c m2 k
        · obtain ⟨m2, h1, h2⟩ := q2
          exact ih m2 h1 h2
        · exact ⟨m, fun _ => ⟨hm, fun m3 h3 => Nat.le_of_not_lt fun h4 => q2 ⟨m3, h4, h3⟩⟩⟩
    · exact ⟨0, fun h => absurd h q⟩
  refine ⟨fun k => (h k).choose, fun k hk he => ?_⟩
  obtain ⟨h1, h2⟩ := (h k).choose_spec hk
  obtain ⟨m, hm⟩ : ∃ m, m = (h k).choose := ⟨_, rfl⟩
  rw [← hm] at h1 h2
  show 1 ≤ (h k).choose ∧ ∃ j, ON f c k j ∧ RC f c j ∧ (h j).choose + 1 ≤ (h k).choose
  rw [← hm]
  cases m with
  | zero => exact absurd h1.2 he
  | succ m =>
    rcases h1 with h1 | ⟨_, _, j, h3, h4⟩
    · have := h2 m h1; omega
    · have hj : RC f c j := ⟨m, h4⟩
      have := ((h j).choose_spec hj).2 m h4
      exact ⟨by omega, j, h3, hj, by omega⟩
/-! the numbers of the rows, and the rows' good nature -/
def rwS (f c : Nat → Int32) (k : Nat) : Prop := ¬ (f (1 + k)).toInt = 0 ∧ RC f c k
def DK (f : Nat → Int32) (k : Nat) : Int := if (f (1 + k)).toInt = 3 then 20 else 5
def PD (f : Nat → Int32) : Nat → Int
  | 0 => 1
  | k + 1 => PD f k * (if (f (1 + k)).toInt = 0 then 1 else DK f k)
def pE (E : Nat → Int) : Nat → Int
  | 0 => 1
  | k + 1 => pE E k * E k
def RWI (f c w : Nat → Int32) (m N : Nat) : Prop := (∀ k, k < m → (0 ≤ (w k).toInt ↔ rwS f c k) ∧ (w k).toInt < (N : Int)) ∧ (∀ i, i < N → ∃ k, k < m ∧ (w k).toInt = (i : Int)) ∧ (∀ k j, k < m → j < m → (w k).toInt = (w j).toInt → 0 ≤ (w k).toInt → k = j) ∧ N ≤ m ∧ ∀ E : Nat → Int, (∀ k, k < m → 0 ≤ (w k).toInt → 0 ≤ E (w k).toInt.toNat ∧ E (w k).toInt.toNat ≤ DK f k) → pE E N ≤ PD f m
theorem DK_pos (f : Nat → Int32) (k : Nat) : 5 ≤ DK f k ∧ DK f k ≤ 20 := by unfold DK; split <;> omega
theorem PD_pos (f : Nat → Int32) : ∀ m, 1 ≤ PD f m
  | 0 => by show (1 : Int) ≤ 1; omega
  | m + 1 => by
    have h1 := PD_pos f m
    have h2 := DK_pos f m
    show 1 ≤ PD f m * _
    split
    · omega
    · have := Int.mul_le_mul h1 (show (1 : Int) ≤ DK f m by omega) (by omega) (by omega)
      omega
theorem pE_nonneg {E : Nat → Int} : ∀ N, (∀ i, i < N → 0 ≤ E i) → 0 ≤ pE E N
  | 0, _ => by show (0 : Int) ≤ 1; omega
  | N + 1, h => Int.mul_nonneg (pE_nonneg N (fun i hi => h i (by omega))) (h N (by omega))
theorem RWI_zero (f c w : Nat → Int32) : RWI f c w 0 0 := ⟨fun k h => absurd h (by omega), fun i h => absurd h (by omega), fun k j h => absurd h (by omega), by omega, fun E _ => by show (1 : Int) ≤ 1; omega⟩
theorem RWI_row {f c w v : Nat → Int32} {m m2 N N2 : Nat} (h : RWI f c w m N) (hv : ∀ k, k < m → v k = w k) (hn : (v m).toInt = (N : Int)) (hS : rwS f c m) (hm : m2 = m + 1) (hN : N2 = N + 1) : RWI f c v m2 N2 := by
  subst hm hN
  obtain ⟨h1, h2, h3, h4, h5⟩ := h
  refine ⟨fun k hk => ?_, fun i hi => ?_, fun k j hk hj e e0 => ?_, by omega, fun E hE => ?_⟩
  · by_cases q : k = m
    · subst q; exact ⟨⟨fun _ => hS, fun _ => by omega⟩, by omega⟩
    · rw [hv k (by omega)]; have := h1 k (by omega); exact ⟨this.1, by omega⟩
  · by_cases q : i = N
    · subst q; exact ⟨m, by omega, hn⟩
    · obtain ⟨k, hk, e⟩ := h2 i (by omega)
      exact ⟨k, by omega, by rw [hv k hk]; exact e⟩
  · by_cases q : k = m
    · by_cases q2 : j = m
      · omega
      · subst q
        rw [hv j (by omega)] at e
        have := (h1 j (by omega)).2
        omega
    · by_cases q2 : j = m
      · subst q2
        rw [hv k (by omega)] at e
        have := (h1 k (by omega)).2
        omega
      · rw [hv k (by omega)] at e e0
        rw [hv j (by omega)] at e
        exact h3 k j (by omega) (by omega) e e0
  · show pE E N * E N ≤ PD f m * _
    rw [if_neg hS.1]
    have a1 := h5 E (fun k hk e => by have := hE k (by omega) (by rw [hv k hk]; exact e); rw [hv k hk] at this; exact this)
    have a2 := hE m (by omega) (by omega)
    rw [hn, Int.toNat_natCast] at a2
    have a3 : 0 ≤ pE E N := pE_nonneg N (fun i hi => by
      obtain ⟨k, hk, e⟩ := h2 i hi
      have := hE k (by omega) (by rw [hv k hk]; omega)
      rw [hv k hk, e, Int.toNat_natCast] at this
      exact this.1)
    have a4 := PD_pos f m
    exact Int.mul_le_mul a1 a2.2 a2.1 (by omega)
theorem RWI_not {f c w v : Nat → Int32} {m m2 N : Nat} (h : RWI f c w m N) (hv : ∀ k, k < m → v k = w k) (hn : (v m).toInt = -1) (hS : ¬ rwS f c m) (hm : m2 = m + 1) : RWI f c v m2 N := by
  subst hm
  obtain ⟨h1, h2, h3, h4, h5⟩ := h
  refine ⟨fun k hk => ?_, fun i hi => ?_, fun k j hk hj e e0 => ?_, by omega, fun E hE => ?_⟩
  · by_cases q : k = m
    · subst q; exact ⟨⟨fun _ => by omega, fun z => absurd z hS⟩, by omega⟩
    · rw [hv k (by omega)]; exact h1 k (by omega)
  · obtain ⟨k, hk, e⟩ := h2 i (by omega)
    exact ⟨k, by omega, by rw [hv k hk]; exact e⟩
  · by_cases q : k = m
    · subst q; omega
    · by_cases q2 : j = m
      · subst q2; omega
      · rw [hv k (by omega)] at e e0
        rw [hv j (by omega)] at e
        exact h3 k j (by omega) (by omega) e e0
  · have a1 := h5 E (fun k hk e => by have := hE k (by omega) (by rw [hv k hk]; exact e); rw [hv k hk] at this; exact this)
    have a4 := PD_pos f m
    have a5 := DK_pos f m
    show pE E N ≤ PD f m * _
    split
    · omega
    · have : PD f m * 1 ≤ PD f m * DK f m := Int.mul_le_mul_of_nonneg_left (by omega) (by omega)
      omega
/-- chance's nodes and players' nodes, counted -/
theorem PD_count (f : Nat → Int32) : ∀ m : Nat, ∃ a b : Nat, (a : Int) = gc f 3 m ∧ (a : Int) + b = (m : Int) - gc f 0 m ∧ PD f m = 20 ^ a * 5 ^ b
  | 0 => ⟨0, 0, rfl, rfl, rfl⟩
  | m + 1 => by
    obtain ⟨a, b, h1, h2, h3⟩ := PD_count f m
    have e3 : gc f 3 (m + 1) = gc f 3 m + (if (f (1 + m)).toInt = 3 then 1 else 0) := rfl
    have e0 : gc f 0 (m + 1) = gc f 0 m + (if (f (1 + m)).toInt = 0 then 1 else 0) := rfl
    have eP : PD f (m + 1) = PD f m * (if (f (1 + m)).toInt = 0 then 1 else DK f m) := rfl
    rw [e3, e0, eP, h3]
    by_cases q0 : (f (1 + m)).toInt = 0
    · rw [if_pos q0, if_pos q0, if_neg (by omega)]
      exact ⟨a, b, by omega, by omega, by omega⟩
    · rw [if_neg q0, if_neg q0]
      unfold DK
      by_cases q3 : (f (1 + m)).toInt = 3
      · rw [if_pos q3, if_pos q3]
        exact ⟨a + 1, b, by omega, by omega, by rw [Int.pow_succ]; grind⟩
      · rw [if_neg q3, if_neg q3]
        exact ⟨a, b + 1, by omega, by omega, by rw [Int.pow_succ]; grind⟩
theorem PD_le {f : Nat → Int32} (h : GS f) : PD f (f 0).toInt.toNat ≤ 400000000 := by
  obtain ⟨a, b, h1, h2, h3⟩ := PD_count f (f 0).toInt.toNat
  have k1 := h.1.2.2.2.2.2.2.2.1
  have k2 := h.1.2.2.2.2.2.2.2.2
  have k0 := h.r.1
  rw [h3]
  have ha : a ≤ 5 := by omega
  have hb : a + b ≤ 8 := by omega
  rcases (show a = 0 ∨ a = 1 ∨ a = 2 ∨ a = 3 ∨ a = 4 ∨ a = 5 by omega) with rfl | rfl | rfl | rfl | rfl | rfl <;> rcases (show b = 0 ∨ b = 1 ∨ b = 2 ∨ b = 3 ∨ b = 4 ∨ b = 5 ∨ b = 6 ∨ b = 7 ∨ b = 8 by omega) with rfl | rfl | rfl | rfl | rfl | rfl | rfl | rfl | rfl <;> first | omega | decide
/-- what stands in the row of node k -/
def arow (f c w : Nat → Int32) (N : Nat) (a b e : Int) (u : Nat → Int) (k j : Nat) : Int :=
  if j = N then b * gsm f c k (fun t => if (w t).toInt < 0 then u t else 0) (wys f k) + e * gsm f c k (fun _ => 1) (wys f k)
  else (if (w k).toInt = (j : Int) then a * gsm f c k (fun _ => 1) (wys f k) else 0) - b * gsm f c k (fun t => if (w t).toInt = (j : Int) then 1 else 0) (wys f k)
def MAT (f c w : Nat → Int32) (N : Nat) (a b e : Int) (u : Nat → Int) (m : Nat) (A : Nat → Nat → Int) : Prop := ∀ k, k < m → 0 ≤ (w k).toInt → ∀ j, j ≤ N → A (w k).toInt.toNat j = arow f c w N a b e u k j
theorem pz_m_delta (y : Nat → Rat) (c : Rat) (i : Nat) : ∀ N, pz_m N (fun j => (if i = j then c else 0) * y j) = if i < N then c * y i else 0
  | 0 => by rw [if_neg (by omega)]; rfl
  | N + 1 => by
    show pz_m N _ + _ = _
    rw [pz_m_delta y c i N]
    dsimp only
    by_cases q : i = N
    · subst q; rw [if_neg (by omega), if_pos rfl, if_pos (by omega)]; grind
    · rw [if_neg q]
      by_cases q2 : i < N
      · rw [if_pos q2, if_pos (by omega)]; grind
      · rw [if_neg q2, if_neg (by omega)]; grind
theorem pz_m_pick (y : Nat → Rat) {r : Int} {N : Nat} (hr : r < (N : Int)) : pz_m N (fun j => (((if r = (j : Int) then 1 else 0 : Int) : Int) : Rat) * y j) = if 0 ≤ r then y r.toNat else 0 := by
  by_cases q : 0 ≤ r
  · rw [if_pos q, pz_m_congr N (v := fun j => (if r.toNat = j then (1 : Rat) else 0) * y j) (fun j _ => ?_), pz_m_delta, if_pos (by omega)]
    · grind
    · by_cases q2 : r = (j : Int)
      · rw [if_pos q2, if_pos (by omega)]; rfl
      · rw [if_neg q2, if_neg (by omega)]; rfl
  · rw [if_neg q]
    exact pz_m_zero (fun j _ => by rw [if_neg (by omega)]; show (0 : Rat) * y j = 0; grind)
section RS
variable {f c w : Nat → Int32} {k N : Nat}
theorem gsR_pick (y : Nat → Rat) : ∀ m, (∀ i, i < m → (w (wtg f k i)).toInt < (N : Int)) → pz_m N (fun j => gsR f c k (fun t => (((if (w t).toInt = (j : Int) then 1 else 0 : Int) : Int) : Rat)) m * y j) = gsR f c k (fun t => if 0 ≤ (w t).toInt then y (w t).toInt.toNat else 0) m
  | 0, _ => pz_m_zero (fun j _ => by show (0 : Rat) * y j = 0; grind)
  | m + 1, h => by
    have ih := gsR_pick y m (fun i hi => h i (by omega))
    show pz_m N (fun j => (gsR f c k _ m + _) * y j) = gsR f c k _ m + _
    rw [← ih]
    dsimp only
    by_cases q : wsel f c k m
    · rw [if_pos q, ← pz_m_pick y (h m (by omega)), pz_m_congr N (v := fun j => ((wwt f k m : Int) : Rat) * ((((if (w (wtg f k m)).toInt = (j : Int) then 1 else 0 : Int) : Int) : Rat) * y j) + gsR f c k (fun t => (((if (w t).toInt = (j : Int) then 1 else 0 : Int) : Int) : Rat)) m * y j) (fun j _ => by rw [if_pos q]; grind), pz_m_lin]
      grind
    · rw [if_neg q, pz_m_congr N (v := fun j => gsR f c k (fun t => (((if (w t).toInt = (j : Int) then 1 else 0 : Int) : Int) : Rat)) m * y j) (fun j _ => by rw [if_neg q]; grind)]
      grind
end RS
def p5 : Nat → Rat
  | 0 => 1
  | d + 1 => p5 d / 5
theorem p5_pos : ∀ d, 0 < p5 d
  | 0 => by show (0 : Rat) < 1; decide
  | d + 1 => pm_div_pos (p5_pos d) (by decide)
theorem p5_le : ∀ {a b : Nat}, a ≤ b → p5 b ≤ p5 a := by
  intro a b h
  induction b with
  | zero => rw [show a = 0 by omega]; exact Rat.le_refl
  | succ b ih =>
    by_cases e : a = b + 1
    · rw [e]; exact Rat.le_refl
    · have h1 := ih (by omega)
      have h2 := p5_pos b
      have h3 : p5 (b + 1) = p5 b / 5 := rfl
      grind
/-! the rows of a play can be solved -/
theorem eP_pE (A : Nat → Nat → Int) : ∀ N, eP A N = pE (fun i => A i i) N
  | 0 => rfl
  | N + 1 => by show eP A N * A N N = pE _ N * A N N; rw [eP_pE A N]
section EHS
variable {f c w : Nat → Int32} {N : Nat} {a b e : Int} {u : Nat → Int} {A : Nat → Nat → Int}
theorem gsm_le {k : Nat} {u v : Nat → Int} : ∀ m, (∀ i, i < m → 0 ≤ wwt f k i) → (∀ i, i < m → wsel f c k i → u (wtg f k i) ≤ v (wtg f k i)) → gsm f c k u m ≤ gsm f c k v m
  | 0, _, _ => Int.le_refl _
  | m + 1, hw, h => by
    show gsm f c k u m + _ ≤ gsm f c k v m + _
    have ih := gsm_le m (fun i hi => hw i (by omega)) (fun i hi => h i (by omega))
    by_cases q : wsel f c k m
    · rw [if_pos q, if_pos q]
      have := Int.mul_le_mul_of_nonneg_left (h m (by omega) q) (hw m (by omega))
      omega
    · rw [if_neg q, if_neg q]; omega
theorem gsm_zero {k : Nat} : ∀ m, gsm f c k (fun _ => 0) m = 0
  | 0 => rfl
  | m + 1 => by
    show gsm f c k _ m + _ = 0
    rw [gsm_zero m]
    by_cases q : wsel f c k m
    · rw [if_pos q]; show 0 + wwt f k m * 0 = 0; omega
    · rw [if_neg q]; omega
/-- what a row makes of numbers for the rows: numbers for the nodes -/
def Yw (w : Nat → Int32) (y : Nat → Rat) : Nat → Rat := fun t => if 0 ≤ (w t).toInt then y (w t).toInt.toNat else 0
theorem Yw1_le (t : Nat) : Yw w (fun _ => 1) t ≤ 1 := by
  unfold Yw
  split
  · exact Rat.le_refl
  · decide
theorem Yw1_nn (t : Nat) : 0 ≤ Yw w (fun _ => 1) t := by
  unfold Yw
  split
  · show (0 : Rat) ≤ 1; decide
  · exact Rat.le_refl
theorem p5_lt {d : Nat} (h : 1 ≤ d) : 0 < 1 - p5 d := by
  have h5 := p5_le h
  have h6 : p5 1 = 1 / 5 := rfl
  rw [h6] at h5
  grind
theorem p5_in (d : Nat) : 1 - p5 d ≤ 1 ∧ 0 ≤ 1 - p5 d := by
  have h5 := p5_pos d
  have h6 := p5_le (Nat.zero_le d)
  have h7 : p5 0 = 1 := rfl
  rw [h7] at h6
  constructor <;> grind
theorem gs_wn (hG : GS f) {k : Nat} (hk : k < 12) : ∀ i, i < wys f k → 0 ≤ wwt f k i := fun i hi => by have := (gs_w1 hG hk hi).1; omega
theorem MAT_sum (hG : GS f) (hR : RWI f c w (f 0).toInt.toNat N) (hM : MAT f c w N a b e u (f 0).toInt.toNat A) {k i : Nat} (hk : k < (f 0).toInt.toNat) (hw : (w k).toInt = (i : Int)) (y : Nat → Rat) :
    pm_s N (eA A) y i = (a : Rat) * gsR f c k (fun _ => 1) (wys f k) * y i - (b : Rat) * gsR f c k (Yw w y) (wys f k) := by
  have h0 := hG.r.1
  have hN := (hR.1 k hk).2
  have hA := hM k hk (by omega)
  rw [show (w k).toInt.toNat = i by omega] at hA
  have hp := gsR_pick (f := f) (c := c) (w := w) (k := k) (N := N) y (wys f k) (fun i2 hi2 => by
    have h1 := (gs_w1 hG (k := k) (by omega) hi2).2.2.1
    exact (hR.1 _ (by omega)).2)
  have hd := pz_m_delta y ((a : Rat) * gsR f c k (fun _ => 1) (wys f k)) i N
  rw [if_pos (by omega)] at hd
  unfold pm_s
  rw [pz_m_congr N (v := fun j => (-(b : Rat)) * (gsR f c k (fun t => (((if (w t).toInt = (j : Int) then 1 else 0 : Int) : Int) : Rat)) (wys f k) * y j) + (if i = j then (a : Rat) * gsR f c k (fun _ => 1) (wys f k) else 0) * y j) (fun j hj => ?_), pz_m_lin, hp, hd]
  · unfold Yw; grind
  · show (A i j : Rat) * y j = _
    rw [hA j (by omega)]
    unfold arow
    rw [if_neg (by omega), Rat.intCast_sub, Rat.intCast_mul, gsR_cast]
    by_cases q : i = j
    · rw [if_pos (by omega), if_pos q, Rat.intCast_mul, gsR_cast]
      show ((a : Rat) * gsR f c k (fun _ => ((1 : Int) : Rat)) (wys f k) - _) * y j = _
      rw [show ((1 : Int) : Rat) = 1 from rfl]
      grind
    · rw [if_neg (by omega), if_neg q, show ((0 : Int) : Rat) = 0 from rfl]
      grind
theorem gs_allR (hG : GS f) {k : Nat} (hk : k < 12) : gsR f c k (fun _ => 1) (wys f k) ≤ 4 ∧ 0 ≤ gsR f c k (fun _ => 1) (wys f k) := by
  have h := gs_all (c := c) hG hk
  have e := gsR_cast (f := f) (c := c) (k := k) (fun _ => 1) (wys f k)
  rw [show ((1 : Int) : Rat) = 1 from rfl] at e
  rw [← e]
  have h4 : gsm f c k (fun _ => 1) (wys f k) ≤ 4 := by
    have := h.1
    split at this <;> omega
  exact ⟨by exact_mod_cast h4, by exact_mod_cast h.2⟩
theorem MAT_EH (hG : GS f) (hR : RWI f c w (f 0).toInt.toNat N) (hM : MAT f c w N a b e u (f 0).toInt.toNat A) (ha : 1 ≤ a ∧ a ≤ 5) (hb : 0 ≤ b ∧ b ≤ a) : EH N A := by
  have h0 := hG.r.1
  have haR : (0 : Rat) < (a : Rat) := by exact_mod_cast (by omega : (0 : Int) < a)
  have hbR : (0 : Rat) ≤ (b : Rat) := by exact_mod_cast hb.1
  have hbaR : (b : Rat) ≤ (a : Rat) := by exact_mod_cast hb.2
  refine ⟨fun i j hi hj hij => ?_, ?_, fun i hi => ?_, ?_⟩
  · obtain ⟨k, hk, e1⟩ := hR.2.1 i hi
    have hA := hM k hk (by omega) j (by omega)
    rw [show (w k).toInt.toNat = i by omega] at hA
    rw [hA]
    unfold arow
    rw [if_neg (by omega), if_neg (by omega)]
    have h1 := gsm_le (f := f) (c := c) (k := k) (u := fun _ => 0) (v := fun t => if (w t).toInt = (j : Int) then 1 else 0) (wys f k) (gs_wn hG (by omega)) (fun i _ _ => by split <;> omega)
    rw [gsm_zero] at h1
    have := Int.mul_nonneg hb.1 h1
    omega
  · obtain ⟨d, hd⟩ := RC_rank f c
    have hx : ∀ j, ∃ r : Nat, j < N → r < (f 0).toInt.toNat ∧ (w r).toInt = (j : Int) := fun j => by
      by_cases q : j < N
      · obtain ⟨k, hk, e1⟩ := hR.2.1 j q
        exact ⟨k, fun _ => ⟨hk, e1⟩⟩
      · exact ⟨0, fun z => absurd z q⟩
    have hrw : ∀ t, t < (f 0).toInt.toNat → 0 ≤ (w t).toInt → (hx (w t).toInt.toNat).choose = t := fun t ht hw => by
      have h1 := (hR.1 t ht).2
      obtain ⟨h2, h3⟩ := (hx (w t).toInt.toNat).choose_spec (by omega)
      exact hR.2.2.1 _ _ h2 ht (by omega) (by omega)
    refine ⟨fun j => 1 - p5 (d (hx j).choose), fun j hj => ?_, fun i hi => ?_⟩
    · obtain ⟨h2, h3⟩ := (hx j).choose_spec hj
      have hS := (hR.1 _ h2).1.mp (by omega)
      obtain ⟨h4, _⟩ := hd _ hS.2 hS.1
      exact p5_lt h4
    · obtain ⟨k, hk, e1⟩ := hR.2.1 i hi
      rw [MAT_sum hG hR hM hk e1]
      have ek := hrw k hk (by omega)
      rw [show (w k).toInt.toNat = i by omega] at ek
      have hS := (hR.1 k hk).1.mp (by omega)
      obtain ⟨h4, j, ⟨i0, hi0, hsel, hto⟩, hRj, hdj⟩ := hd k hS.2 hS.1
      have hi0w : i0 < wys f k := by unfold wys; omega
      have hjw : wtg f k i0 = j := by unfold wtg; omega
      have hjn := (gs_w1 hG (k := k) (by omega) hi0w).2.2.1
      have hle1 : ∀ t, t < (f 0).toInt.toNat → Yw w (fun j => 1 - p5 (d (hx j).choose)) t ≤ 1 ∧ 0 ≤ Yw w (fun j => 1 - p5 (d (hx j).choose)) t := fun t ht => by
        unfold Yw
        by_cases q : 0 ≤ (w t).toInt
        · rw [if_pos q]
          exact p5_in _
        · rw [if_neg q]; constructor <;> decide
      have hq := p5_pos (d k - 1)
      have hgap := gsR_gap (f := f) (c := c) (k := k) (u := Yw w (fun j => 1 - p5 (d (hx j).choose))) (e := p5 (d k - 1)) (i0 := i0) (Rat.le_of_lt hq) hsel (wys f k) hi0w (fun i2 hi2 => (gs_w1 hG (by omega) hi2).1) (fun i2 hi2 _ => (hle1 _ (by have := (gs_w1 hG (k := k) (by omega) hi2).2.2.1; omega)).1) (by
        rw [hjw]
        rw [hjw] at hjn
        unfold Yw
        by_cases q : 0 ≤ (w j).toInt
        · rw [if_pos q]
          show 1 - p5 (d (hx (w j).toInt.toNat).choose) ≤ 1 - p5 (d k - 1)
          rw [hrw j (by omega) q]
          have := p5_le (show d j ≤ d k - 1 by omega)
          clear hM hR hG hle1 hrw hd ek hx
          grind
        · rw [if_neg q]
          exact (p5_in (d k - 1)).2)
      have hnn := gsR_le (f := f) (c := c) (k := k) (u := fun _ => 0) (v := Yw w (fun j => 1 - p5 (d (hx j).choose))) (wys f k) (gs_wn hG (by omega)) (fun i2 hi2 _ => (hle1 _ (by have := (gs_w1 hG (k := k) (by omega) hi2).2.2.1; omega)).2)
      rw [gsR_zero] at hnn
      have hall := gs_allR (c := c) hG (k := k) (by omega)
      rw [ek]
      generalize gsR f c k (Yw w (fun j => 1 - p5 (d (hx j).choose))) (wys f k) = Z at hgap hnn ⊢
      generalize gsR f c k (fun _ => 1) (wys f k) = all at hgap hall ⊢
      have h5 : p5 (d k) = p5 (d k - 1) / 5 := by rw [show d k = (d k - 1) + 1 by omega]; rfl
      rw [h5]
      generalize p5 (d k - 1) = q at hq hgap ⊢
      clear hle1 hrw hd ek hx hM hR hG
      have m1 := Rat.mul_le_mul_of_nonneg_right (c := Z) hbaR hnn
      have m2 := Rat.mul_le_mul_of_nonneg_left (c := (a : Rat)) hgap (Rat.le_of_lt haR)
      have m3 := Rat.mul_le_mul_of_nonneg_right (c := q) hall.1 (Rat.le_of_lt hq)
      have m4 : (a : Rat) * (all * q) ≤ (a : Rat) * (4 * q) := Rat.mul_le_mul_of_nonneg_left m3 (Rat.le_of_lt haR)
      have m5 : 0 < (a : Rat) * q := Rat.mul_pos haR hq
      grind
  · obtain ⟨k, hk, e1⟩ := hR.2.1 i hi
    rw [MAT_sum hG hR hM hk e1]
    have hall := gs_allR (c := c) hG (k := k) (by omega)
    have h1 := gsR_le (f := f) (c := c) (k := k) (u := Yw w (fun _ => 1)) (v := fun _ => 1) (wys f k) (gs_wn hG (by omega)) (fun i2 hi2 _ => Yw1_le _)
    have h2 := gsR_le (f := f) (c := c) (k := k) (u := fun _ => 0) (v := Yw w (fun _ => 1)) (wys f k) (gs_wn hG (by omega)) (fun i2 hi2 _ => Yw1_nn _)
    rw [gsR_zero] at h2
    generalize gsR f c k (Yw w (fun _ => 1)) (wys f k) = Z at h1 h2 ⊢
    generalize gsR f c k (fun _ => 1) (wys f k) = all at h1 hall ⊢
    clear hM hR hG
    have m1 := Rat.mul_le_mul_of_nonneg_right (c := Z) hbaR h2
    have m2 := Rat.mul_le_mul_of_nonneg_left (c := (a : Rat)) h1 (Rat.le_of_lt haR)
    grind
  · rw [eP_pE]
    refine Int.le_trans (hR.2.2.2.2 (fun i => A i i) (fun k hk hw => ?_)) (PD_le hG)
    have hN := (hR.1 k hk).2
    have hA := hM k hk hw (w k).toInt.toNat (by omega)
    show 0 ≤ A _ _ ∧ A _ _ ≤ _
    rw [hA]
    unfold arow
    rw [if_neg (by omega), if_pos (by omega)]
    have hall := gs_all (c := c) hG (k := k) (by omega)
    have h1 := gsm_le (f := f) (c := c) (k := k) (u := fun _ => 0) (v := fun t => if (w t).toInt = (((w k).toInt.toNat : Nat) : Int) then 1 else 0) (wys f k) (gs_wn hG (by omega)) (fun i _ _ => by split <;> omega)
    have h2 := gsm_le (f := f) (c := c) (k := k) (u := fun t => if (w t).toInt = (((w k).toInt.toNat : Nat) : Int) then 1 else 0) (v := fun _ => 1) (wys f k) (gs_wn hG (by omega)) (fun i _ _ => by split <;> omega)
    rw [gsm_zero] at h1
    generalize gsm f c k (fun t => if (w t).toInt = (((w k).toInt.toNat : Nat) : Int) then 1 else 0) (wys f k) = Z at h1 h2 ⊢
    have m1 : b * Z ≤ a * Z := Int.mul_le_mul_of_nonneg_right hb.2 h1
    have m2 : a * Z ≤ a * gsm f c k (fun _ => 1) (wys f k) := Int.mul_le_mul_of_nonneg_left h2 (by omega)
    have m3 := Int.mul_nonneg hb.1 h1
    unfold DK
    by_cases q : (f (1 + k)).toInt = 3
    · rw [if_pos q] at hall
      rw [if_pos q]
      have m4 : a * gsm f c k (fun _ => 1) (wys f k) ≤ 5 * 4 := Int.mul_le_mul ha.2 hall.1 hall.2 (by omega)
      omega
    · rw [if_neg q] at hall
      rw [if_neg q]
      have m4 : a * gsm f c k (fun _ => 1) (wys f k) ≤ 5 * 1 := Int.mul_le_mul ha.2 hall.1 hall.2 (by omega)
      omega
/-- the last column lies within 9 rows' sums, where nothing is added by a move -/
theorem MAT_LOK (hG : GS f) (hR : RWI f c w (f 0).toInt.toNat N) (hM : MAT f c w N a b 0 u (f 0).toInt.toNat A) (hb : 0 ≤ b ∧ b ≤ a) (hu : ∀ t, t < (f 0).toInt.toNat → 0 ≤ u t ∧ u t ≤ 9) : LOK N A := by
  refine Or.inl ?_
  intro i hi
  have h0 := hG.r.1
  have hbR : (0 : Rat) ≤ (b : Rat) := by exact_mod_cast hb.1
  have hbaR : (b : Rat) ≤ (a : Rat) := by exact_mod_cast hb.2
  obtain ⟨k, hk, e1⟩ := hR.2.1 i hi
  rw [MAT_sum hG hR hM hk e1]
  have hA := hM k hk (by omega) N (Nat.le_refl _)
  rw [show (w k).toInt.toNat = i by omega] at hA
  unfold arow at hA
  rw [if_pos rfl, Int.zero_mul, Int.add_zero] at hA
  have hAR : eA A i N = (b : Rat) * gsR f c k (fun t => ((if (w t).toInt < 0 then u t else 0 : Int) : Rat)) (wys f k) := by
    show ((A i N : Int) : Rat) = _
    rw [hA, Rat.intCast_mul, gsR_cast]
  rw [hAR]
  have hall := gs_allR (c := c) hG (k := k) (by omega)
  have htn : ∀ i2, i2 < wys f k → wtg f k i2 < (f 0).toInt.toNat := fun i2 hi2 => by have := (gs_w1 hG (k := k) (by omega) hi2).2.2.1; omega
  have h1 := gsR_le (f := f) (c := c) (k := k) (u := fun t => ((if (w t).toInt < 0 then u t else 0 : Int) : Rat)) (v := fun t => (-9) * Yw w (fun _ => 1) t + 9) (wys f k) (gs_wn hG (by omega)) (fun i2 hi2 _ => by
    have h3 := hu _ (htn i2 hi2)
    unfold Yw
    by_cases q : 0 ≤ (w (wtg f k i2)).toInt
    · rw [if_pos q, if_neg (by omega)]
      show ((0 : Int) : Rat) ≤ -9 * 1 + 9
      rw [show ((0 : Int) : Rat) = 0 from rfl]
      clear hM hR hG hu htn
      grind
    · rw [if_neg q, if_pos (by omega)]
      have : ((u (wtg f k i2) : Int) : Rat) ≤ ((9 : Int) : Rat) := by exact_mod_cast h3.2
      rw [show ((9 : Int) : Rat) = 9 from rfl] at this
      clear hM hR hG hu htn
      grind)
  have h2 := gsR_le (f := f) (c := c) (k := k) (u := fun _ => 0) (v := fun t => ((if (w t).toInt < 0 then u t else 0 : Int) : Rat)) (wys f k) (gs_wn hG (by omega)) (fun i2 hi2 _ => by
    have h3 := hu _ (htn i2 hi2)
    split
    · exact_mod_cast h3.1
    · decide)
  have h3 := gsR_le (f := f) (c := c) (k := k) (u := Yw w (fun _ => 1)) (v := fun _ => 1) (wys f k) (gs_wn hG (by omega)) (fun i2 hi2 _ => Yw1_le _)
  rw [gsR_lin] at h1
  rw [gsR_zero] at h2
  have h9 : gsR f c k (fun _ => 9) (wys f k) = 9 * gsR f c k (fun _ => 1) (wys f k) := by
    have := gsR_lin (f := f) (c := c) (k := k) 9 (fun _ => 1) (fun _ => 0) (wys f k)
    rw [gsR_zero] at this
    rw [show (fun (_ : Nat) => (9 : Rat)) = (fun _ => 9 * 1 + 0) from funext (fun _ => by grind), this]
    grind
  rw [h9] at h1
  generalize gsR f c k (fun t => ((if (w t).toInt < 0 then u t else 0 : Int) : Rat)) (wys f k) = X at h1 h2 ⊢
  generalize gsR f c k (Yw w (fun _ => 1)) (wys f k) = Z at h1 h3 ⊢
  generalize gsR f c k (fun _ => 1) (wys f k) = all at h1 h3 hall ⊢
  clear hM hR hG hu htn
  have m1 := Rat.mul_le_mul_of_nonneg_left (c := (b : Rat)) h1 hbR
  have m2 := Rat.mul_le_mul_of_nonneg_right (c := all) hbaR hall.2
  have m3 := Rat.mul_nonneg hbR h2
  constructor <;> grind
end EHS
/-! what a play is worth: it is there, it is one alone, it is none below 0 -/
theorem pm_s_lin {n : Nat} (A : Nat → Nat → Rat) (r : Rat) (y z : Nat → Rat) (i : Nat) : pm_s n A (fun j => r * y j + z j) i = r * pm_s n A y i + pm_s n A z i := by
  unfold pm_s
  rw [← pz_m_lin]
  exact pz_m_congr n (fun j _ => by grind)
theorem EH.nonneg {n : Nat} {A : Nat → Nat → Int} (h : EH n A) (hb : ∀ i, i < n → 0 ≤ A i n) : ∀ i, i < n → 0 ≤ eX A n i n := by
  intro i hi
  refine Int.not_lt.mp fun hlt => ?_
  obtain ⟨z, hz, hz2⟩ := h.x
  obtain ⟨k, hk, hmax⟩ := pz_max (fun j => -((eX A n j n : Int) : Rat) / z j) n (by omega)
  have hr0 : 0 < -((eX A n k n : Int) : Rat) / z k := by
    have h1 := hmax i hi
    have h3 : ((eX A n i n : Int) : Rat) < ((0 : Int) : Rat) := by exact_mod_cast hlt
    rw [show ((0 : Int) : Rat) = 0 from rfl] at h3
    have h4 : 0 < -((eX A n i n : Int) : Rat) := by clear hmax hz hz2 hb h; grind
    have h2 : 0 < -((eX A n i n : Int) : Rat) / z i := pm_div_pos h4 (hz i hi)
    clear hmax hz hz2 hb h
    grind
  generalize hr : -((eX A n k n : Int) : Rat) / z k = r at hr0 hmax
  have hy : ∀ j, j < n → 0 ≤ r * z j + ((eX A n j n : Int) : Rat) := fun j hj => by
    have h1 := hmax j hj
    have h2 := hz j hj
    have h3 := Rat.mul_le_mul_of_nonneg_right (c := z j) h1 (by grind)
    have h4 : -((eX A n j n : Int) : Rat) / z j * z j = -((eX A n j n : Int) : Rat) := Rat.div_mul_cancel (by grind)
    grind
  have hyk : r * z k + ((eX A n k n : Int) : Rat) = 0 := by
    have h2 := hz k hk
    have h4 : -((eX A n k n : Int) : Rat) / z k * z k = -((eX A n k n : Int) : Rat) := Rat.div_mul_cancel (by grind)
    rw [hr] at h4
    grind
  have hs := pm_s_lin (n := n) (eA A) r z (fun j => ((eX A n j n : Int) : Rat)) k
  rw [h.solved k hk] at hs
  have h5 := hz2 k hk
  have h6 : 0 ≤ ((eb A n : Int) : Rat) * eA A k n := Rat.mul_nonneg (by exact_mod_cast (by have := h.bpos (c := n) (Nat.le_refl _); omega : 0 ≤ eb A n)) (by show (0 : Rat) ≤ ((A k n : Int) : Rat); exact_mod_cast hb k hk)
  have h7 : 0 < r * pm_s n (eA A) z k := Rat.mul_pos hr0 h5
  have h8 : pm_s n (eA A) (fun j => r * z j + ((eX A n j n : Int) : Rat)) k ≤ 0 := by
    have := pz_m_le (u := fun j => eA A k j * (r * z j + ((eX A n j n : Int) : Rat))) (v := fun _ => 0) n (fun j hj => by
      by_cases q : k = j
      · subst q; rw [hyk, Rat.mul_zero]; exact Rat.le_refl
      · have a1 := h.pO k j hk hj q
        have a2 := hy j hj
        have := Rat.mul_nonneg (show 0 ≤ -(eA A k j) by grind) a2
        grind)
    rw [pz_m_zero (u := fun _ => 0) (fun _ _ => rfl)] at this
    exact this
  grind
def VAL (f c : Nat → Int32) (v : Nat → Rat) : Prop :=
  (∀ k, k < (f 0).toInt.toNat → (f (1 + k)).toInt = 0 → v k = (((f (13 + k)).toInt : Int) : Rat)) ∧ (∀ k, k < (f 0).toInt.toNat → ¬ (f (1 + k)).toInt = 0 → ¬ RC f c k → v k = 0) ∧
  ∀ k, k < (f 0).toInt.toNat → ¬ (f (1 + k)).toInt = 0 → RC f c k → gsR f c k (fun _ => 1) (wys f k) * v k = gsR f c k v (wys f k)
/-- what is laid ahead of the solving: pays at ends -/
def upay (f : Nat → Int32) : Nat → Int := fun t => if (f (1 + t)).toInt = 0 then (f (13 + t)).toInt else 0
section VS
variable {f c w : Nat → Int32} {N : Nat} {A : Nat → Nat → Int}
theorem MAT_VAL {u : Nat → Int} (hG : GS f) (hR : RWI f c w (f 0).toInt.toNat N) (hM : MAT f c w N 1 1 0 u (f 0).toInt.toNat A) (hu : ∀ t, t < (f 0).toInt.toNat → u t = upay f t) :
    VAL f c (fun t => if 0 ≤ (w t).toInt then ((eX A N (w t).toInt.toNat N : Int) : Rat) / ((eb A N : Int) : Rat) else ((u t : Int) : Rat)) := by
  have h0 := hG.r.1
  have hE := MAT_EH hG hR hM (by omega) (by omega)
  have hb : (0 : Rat) < ((eb A N : Int) : Rat) := by exact_mod_cast hE.bpos (Nat.le_refl _)
  refine ⟨fun k hk h1 => ?_, fun k hk h1 h2 => ?_, fun k hk h1 h2 => ?_⟩
  · have := (hR.1 k hk).1
    show (if 0 ≤ (w k).toInt then _ else _) = _
    rw [if_neg (fun z => (this.mp z).1 h1), hu k hk]
    unfold upay
    rw [if_pos h1]
  · have := (hR.1 k hk).1
    show (if 0 ≤ (w k).toInt then _ else _) = _
    rw [if_neg (fun z => h2 (this.mp z).2), hu k hk]
    unfold upay
    rw [if_neg h1]; rfl
  · have hw := (hR.1 k hk).1.mpr ⟨h1, h2⟩
    have hwN := (hR.1 k hk).2
    have hs := hE.solved (w k).toInt.toNat (by omega)
    rw [MAT_sum hG hR hM hk (i := (w k).toInt.toNat) (by omega)] at hs
    have hA := hM k hk hw N (Nat.le_refl _)
    unfold arow at hA
    rw [if_pos rfl, Int.zero_mul, Int.add_zero, Int.one_mul] at hA
    have hAR : eA A (w k).toInt.toNat N = gsR f c k (fun t => ((if (w t).toInt < 0 then u t else 0 : Int) : Rat)) (wys f k) := by
      show ((A _ N : Int) : Rat) = _
      rw [hA, gsR_cast]
    rw [hAR, show ((1 : Int) : Rat) = 1 from rfl] at hs
    have hl := gsR_lin (f := f) (c := c) (k := k) (1 / ((eb A N : Int) : Rat)) (Yw w (fun j => ((eX A N j N : Int) : Rat))) (fun t => ((if (w t).toInt < 0 then u t else 0 : Int) : Rat)) (wys f k)
    show gsR f c k (fun _ => 1) (wys f k) * (if 0 ≤ (w k).toInt then ((eX A N (w k).toInt.toNat N : Int) : Rat) / ((eb A N : Int) : Rat) else ((u k : Int) : Rat)) = _
    rw [gsR_congr (f := f) (c := c) (k := k) (u := fun t => if 0 ≤ (w t).toInt then ((eX A N (w t).toInt.toNat N : Int) : Rat) / ((eb A N : Int) : Rat) else ((u t : Int) : Rat)) (v := fun t => 1 / ((eb A N : Int) : Rat) * Yw w (fun j => ((eX A N j N : Int) : Rat)) t + ((if (w t).toInt < 0 then u t else 0 : Int) : Rat)) (wys f k) (fun i hi _ => by
      unfold Yw
      dsimp only
      by_cases q : 0 ≤ (w (wtg f k i)).toInt
      · rw [if_pos q, if_pos q, if_neg (by omega), show ((0 : Int) : Rat) = 0 from rfl]; grind
      · rw [if_neg q, if_neg q, if_pos (by omega)]; grind), hl, if_pos hw]
    generalize gsR f c k (Yw w (fun j => ((eX A N j N : Int) : Rat))) (wys f k) = Z at hs ⊢
    generalize gsR f c k (fun t => ((if (w t).toInt < 0 then u t else 0 : Int) : Rat)) (wys f k) = X at hs ⊢
    generalize gsR f c k (fun _ => 1) (wys f k) = all at hs ⊢
    generalize ((eX A N (w k).toInt.toNat N : Int) : Rat) = x at hs ⊢
    generalize ((eb A N : Int) : Rat) = B at hb hs ⊢
    have e1 : all * (x / B) = (all * x) / B := by grind
    have e2 : (B * X) / B = X := by rw [Rat.mul_comm]; exact Rat.mul_div_cancel (by grind)
    have e3 : all * x = Z + B * X := by grind
    rw [e1, e3]
    grind
theorem i32_small {N : Nat} (h : N ≤ 12) : (Int32.ofInt (N : Int)).toInt = (N : Int) := by
  rcases (show N = 0 ∨ N = 1 ∨ N = 2 ∨ N = 3 ∨ N = 4 ∨ N = 5 ∨ N = 6 ∨ N = 7 ∨ N = 8 ∨ N = 9 ∨ N = 10 ∨ N = 11 ∨ N = 12 by omega) with rfl | rfl | rfl | rfl | rfl | rfl | rfl | rfl | rfl | rfl | rfl | rfl | rfl <;> decide
theorem RWI_ex (f c : Nat → Int32) : ∀ m, m ≤ 12 → ∃ (w : Nat → Int32) (N : Nat), RWI f c w m N
  | 0, _ => ⟨fun _ => 0, 0, RWI_zero f c _⟩
  | m + 1, hm => by
    obtain ⟨w, N, h⟩ := RWI_ex f c m (by omega)
    have hN := h.2.2.2.1
    by_cases q : rwS f c m
    · exact ⟨upd w m (Int32.ofInt (N : Int)), N + 1, RWI_row h (fun k hk => upd_ne _ _ (by omega)) (by rw [upd_at]; exact i32_small (by omega)) q rfl rfl⟩
    · exact ⟨upd w m (-1), N, RWI_not h (fun k hk => upd_ne _ _ (by omega)) (by rw [upd_at]; decide) q rfl⟩
theorem VAL_ex (hG : GS f) (c : Nat → Int32) : ∃ v, VAL f c v := by
  have h0 := hG.r.1
  obtain ⟨w, N, hR⟩ := RWI_ex f c (f 0).toInt.toNat (by omega)
  have hA : ∃ A : Nat → Nat → Int, MAT f c w N 1 1 0 (upay f) (f 0).toInt.toNat A := by
    have hx : ∀ j, ∃ r : Nat, j < N → r < (f 0).toInt.toNat ∧ (w r).toInt = (j : Int) := fun j => by
      by_cases q : j < N
      · obtain ⟨k, hk, e1⟩ := hR.2.1 j q
        exact ⟨k, fun _ => ⟨hk, e1⟩⟩
      · exact ⟨0, fun z => absurd z q⟩
    refine ⟨fun i j => arow f c w N 1 1 0 (upay f) (hx i).choose j, fun k hk hw j hj => ?_⟩
    have h1 := (hR.1 k hk).2
    obtain ⟨h2, h3⟩ := (hx (w k).toInt.toNat).choose_spec (by omega)
    show arow f c w N 1 1 0 (upay f) (hx (w k).toInt.toNat).choose j = _
    rw [hR.2.2.1 _ _ h2 hk (by omega) (by omega)]
  obtain ⟨A, hM⟩ := hA
  exact ⟨_, MAT_VAL hG hR hM (fun _ _ => rfl)⟩
end VS
section PU
variable {n : Nat} {en : Nat → Bool} {pay : Nat → Rat} {pl mx : Nat → Bool} {ch : Nat → List (Nat × Nat)} {to : Nat → Nat → Nat} {al : Nat → Nat → Prop}
theorem pz_V_uniq (hN : pz_N n en pay pl mx ch to al) {c : Nat → Nat} (hc : pz_L n pl al c) {v v' : Nat → Rat} (hv : pz_V n en pay pl ch to c v) (hv' : pz_V n en pay pl ch to c v') : ∀ k, k < n → v k = v' k := by
  have H : ∀ v v' : Nat → Rat, pz_V n en pay pl ch to c v → pz_V n en pay pl ch to c v' → ∀ k, k < n → v k - v' k ≤ 0 := fun v v' hv hv' => pz_prin (pz_ok_of hN hc) (u := fun k => v k - v' k) (fun k hk h => by
    by_cases q : en k = true
    · rw [hv.1 k hk q, hv'.1 k hk q]; grind
    · have q' : en k = false := by simpa using q
      have h2 : ¬ pz_C en (pz_sc pl ch to c) k := h.resolve_left q
      rw [hv.2.1 k hk q' h2, hv'.2.1 k hk q' h2]; grind) (fun k hk h1 h2 => by
    have e1 := hv.2.2 k hk h1 h2
    have e2 := hv'.2.2 k hk h1 h2
    rw [pz_s_sub]
    grind)
  intro k hk
  have h1 := H v v' hv hv' k hk
  have h2 := H v' v hv' hv k hk
  grind
end PU
/-! the game of a row, for the rows of 00 to 02 -/
def gEn (f : Nat → Int32) (k : Nat) : Bool := decide ((f (1 + k)).toInt = 0)
def gPay (f : Nat → Int32) (k : Nat) : Rat := (((f (13 + k)).toInt : Int) : Rat)
def gPl (f : Nat → Int32) (k : Nat) : Bool := decide ((f (1 + k)).toInt = 1 ∨ (f (1 + k)).toInt = 2)
def gMx (f : Nat → Int32) (k : Nat) : Bool := decide ((f (1 + k)).toInt = 1)
def gCh (f : Nat → Int32) (k : Nat) : List (Nat × Nat) := (List.range (wys f k)).map (fun i => ((wwt f k i).toNat, wtg f k i))
def gAl (f : Nat → Int32) (k i : Nat) : Prop := i < wys f k ∧ ((f (109 + k)).toInt < 0 ∨ (f (109 + k)).toInt = (i : Int))
def gNo (f : Nat → Int32) : Nat := (f 0).toInt.toNat
section GV
variable {f : Nat → Int32}
theorem g_N (hG : GS f) : pz_N (gNo f) (gEn f) (gPay f) (gPl f) (gMx f) (gCh f) (wtg f) (gAl f) := by
  have h0 := hG.r.1
  refine ⟨fun k hk h1 h2 => ?_, fun k hk i h1 h2 => ?_, fun k hk h1 => ?_, fun k h1 => ?_⟩
  · unfold gNo at hk
    have hk0 : ¬ (f (1 + k)).toInt = 0 := by unfold gEn at h1; simpa using h1
    have hw := hG.2 k (by omega) hk0
    refine ⟨?_, fun p hp => ?_⟩
    · unfold gCh
      intro e
      have := congrArg List.length e
      rw [List.length_map, List.length_range] at this
      have h9 : wys f k = 0 := this
      unfold wys at h9
      omega
    · unfold gCh at hp
      obtain ⟨i, hi, rfl⟩ := List.mem_map.mp hp
      have h3 := gs_w1 hG (k := k) (by omega) (List.mem_range.mp hi)
      unfold gNo
      exact ⟨by show 0 < (wwt f k i).toNat; omega, by show wtg f k i < _; omega⟩
  · unfold gNo at hk
    have h3 := gs_w1 hG (k := k) (by omega) h2.1
    unfold gNo; omega
  · unfold gNo at hk
    have := ((hG.r.2.1 k (by omega)).2.1).1
    unfold gPay; exact_mod_cast this
  · unfold gMx at h1; unfold gPl
    have : (f (1 + k)).toInt = 1 := by simpa using h1
    simp [this]
theorem gsR_chance {c : Nat → Int32} {k : Nat} (h3 : (f (1 + k)).toInt = 3) (v : Nat → Rat) : ∀ m, (∀ i, i < m → 0 ≤ wwt f k i) → gsR f c k v m = pz_s ((List.range m).map (fun i => ((wwt f k i).toNat, wtg f k i))) v
  | 0, _ => rfl
  | m + 1, h => by
    have app : ∀ (l : List (Nat × Nat)) (p : Nat × Nat), pz_s (l ++ [p]) v = pz_s l v + (p.1 : Rat) * v p.2 := fun l p => by
      induction l with
      | nil => show (p.1 : Rat) * v p.2 + 0 = 0 + _; grind
      | cons q l ih => show (q.1 : Rat) * v q.2 + pz_s (l ++ [p]) v = _; rw [ih]; show _ = (q.1 : Rat) * v q.2 + pz_s l v + _; grind
    rw [List.range_succ, List.map_append]
    show gsR f c k v m + _ = pz_s (_ ++ [((wwt f k m).toNat, wtg f k m)]) v
    rw [app, gsR_chance h3 v m (fun i hi => h i (by omega)), if_pos (Or.inl h3)]
    have e : ((wwt f k m : Int) : Rat) = (((wwt f k m).toNat : Nat) : Rat) := by
      have := h m (by omega)
      obtain ⟨n, hn⟩ := Int.eq_ofNat_of_zero_le this
      rw [hn]; rfl
    rw [e]
theorem gsR_player {c : Nat → Int32} {k i : Nat} (h3 : ¬ (f (1 + k)).toInt = 3) (hc : (c k).toInt = (i : Int)) (v : Nat → Rat) : ∀ m, gsR f c k v m = if i < m then v (wtg f k i) else 0
  | 0 => by rw [if_neg (by omega)]; rfl
  | m + 1 => by
    show gsR f c k v m + _ = _
    rw [gsR_player h3 hc v m]
    by_cases q : i = m
    · subst q
      rw [if_neg (by omega), if_pos (Or.inr hc), if_pos (by omega)]
      unfold wwt
      rw [if_neg h3, show ((1 : Int) : Rat) = 1 from rfl]; grind
    · have q2 : ¬ wsel f c k m := fun z => by rcases z with z | z; exact h3 z; omega
      rw [if_neg q2]
      by_cases q3 : i < m
      · rw [if_pos q3, if_pos (by omega)]; grind
      · rw [if_neg q3, if_neg (by omega)]; grind
theorem g_pl (hG : GS f) {k : Nat} (hk : k < gNo f) (h0 : ¬ (f (1 + k)).toInt = 0) (h3 : ¬ (f (1 + k)).toInt = 3) : gPl f k = true := by
  have h1 := hG.r.1
  unfold gNo at hk
  have := (hG.r.2.1 k (by omega)).1
  unfold gPl
  have : (f (1 + k)).toInt = 1 ∨ (f (1 + k)).toInt = 2 := by omega
  simp [this]
theorem g_pl3 {k : Nat} (h3 : (f (1 + k)).toInt = 3) : gPl f k = false := by unfold gPl; simp [h3]
theorem g_sum (hG : GS f) {d : Nat → Int32} {c : Nat → Nat} (hd : ∀ k, k < gNo f → gPl f k = true → (d k).toInt = (c k : Int)) (hc : pz_L (gNo f) (gPl f) (gAl f) c) {k : Nat} (hk : k < gNo f) (h0 : ¬ (f (1 + k)).toInt = 0) (v : Nat → Rat) : gsR f d k v (wys f k) = pz_s (pz_sc (gPl f) (gCh f) (wtg f) c k) v := by
  have hn := hG.r.1
  have hk12 : k < 12 := by unfold gNo at hk; omega
  unfold pz_sc
  by_cases h3 : (f (1 + k)).toInt = 3
  · rw [g_pl3 h3, if_neg (by decide)]
    exact gsR_chance h3 v _ (gs_wn hG hk12)
  · have hp := g_pl hG hk h0 h3
    rw [hp, if_pos rfl, gsR_player h3 (hd k hk hp) v, if_pos (hc k hk hp).1]
    show _ = ((1 : Nat) : Rat) * v (wtg f k (c k)) + 0
    rw [show ((1 : Nat) : Rat) = 1 from rfl]; grind
theorem g_on (hG : GS f) {d : Nat → Int32} {c : Nat → Nat} (hd : ∀ k, k < gNo f → gPl f k = true → (d k).toInt = (c k : Int)) (hc : pz_L (gNo f) (gPl f) (gAl f) c) {k : Nat} (hk : k < gNo f) (h0 : ¬ (f (1 + k)).toInt = 0) (j : Nat) : ON f d k j ↔ ∃ p, p ∈ pz_sc (gPl f) (gCh f) (wtg f) c k ∧ p.2 = j := by
  have hn := hG.r.1
  have hk12 : k < 12 := by unfold gNo at hk; omega
  have hw := (hG.r.2.1 k hk12).2.2.1
  unfold pz_sc ON
  by_cases h3 : (f (1 + k)).toInt = 3
  · rw [g_pl3 h3, if_neg (by decide)]
    unfold gCh
    constructor
    · rintro ⟨i, hi, _, ht⟩
      exact ⟨_, List.mem_map.mpr ⟨i, List.mem_range.mpr (by unfold wys; omega), rfl⟩, by show wtg f k i = j; unfold wtg; omega⟩
    · rintro ⟨p, hp, e⟩
      obtain ⟨i, hi, rfl⟩ := List.mem_map.mp hp
      have hi := List.mem_range.mp hi
      have h4 := (gs_w1 hG hk12 hi).2.2.2
      have e : wtg f k i = j := e
      exact ⟨i, by unfold wys at hi; omega, Or.inl h3, by omega⟩
  · have hp := g_pl hG hk h0 h3
    have hck := hd k hk hp
    have hcl := (hc k hk hp).1
    have h4 := (gs_w1 hG hk12 hcl).2.2.2
    rw [hp, if_pos rfl]
    constructor
    · rintro ⟨i, hi, hs, ht⟩
      have : (d k).toInt = (i : Int) := hs.resolve_left h3
      obtain rfl : i = c k := by omega
      exact ⟨_, List.mem_singleton.mpr rfl, by show wtg f k (c k) = j; omega⟩
    · rintro ⟨p, hp2, e⟩
      rw [List.mem_singleton] at hp2
      subst hp2
      have e : wtg f k (c k) = j := e
      exact ⟨c k, by unfold wys at hcl; omega, Or.inr hck, by omega⟩
theorem g_RC (hG : GS f) {d : Nat → Int32} {c : Nat → Nat} (hd : ∀ k, k < gNo f → gPl f k = true → (d k).toInt = (c k : Int)) (hc : pz_L (gNo f) (gPl f) (gAl f) c) {k : Nat} (hk : k < gNo f) : RC f d k ↔ pz_C (gEn f) (pz_sc (gPl f) (gCh f) (wtg f) c) k := by
  have hn := hG.r.1
  have hok := pz_ok_of (g_N hG) hc
  constructor
  · rintro ⟨m, hm⟩
    induction m generalizing k with
    | zero => exact pz_C_end (by unfold gEn; simp [hm.2])
    | succ m ih =>
      rcases hm with hm | ⟨h1, h2, j, h3, h4⟩
      · exact ih hk hm
      · obtain ⟨p, hp, e⟩ := (g_on hG hd hc hk h2 j).mp h3
        have := (hok k hk (by unfold gEn; simp [h2])).2 p hp
        exact pz_C_step hp (by rw [e]; exact ih (by omega) h4)
  · rintro ⟨m, hm⟩
    induction m generalizing k with
    | zero =>
      have h1 : gEn f k = true := hm
      unfold gEn at h1
      unfold gNo at hk
      exact ⟨0, by omega, by simpa using h1⟩
    | succ m ih =>
      rcases hm with h1 | ⟨p, hp, h2⟩
      · unfold gEn at h1
        unfold gNo at hk
        exact ⟨0, by omega, by simpa using h1⟩
      · by_cases h1 : (f (1 + k)).toInt = 0
        · unfold gNo at hk
          exact ⟨0, by omega, h1⟩
        · have h3 := (hok k hk (by unfold gEn; simp [h1])).2 p hp
          exact RC_closed f d k p.2 (by unfold gNo at hk; omega) h1 ((g_on hG hd hc hk h1 p.2).mpr ⟨p, hp, rfl⟩) (ih h3.2 h2)
theorem g_V (hG : GS f) {d : Nat → Int32} {c : Nat → Nat} (hd : ∀ k, k < gNo f → gPl f k = true → (d k).toInt = (c k : Int)) (hc : pz_L (gNo f) (gPl f) (gAl f) c) {v : Nat → Rat} (h : VAL f d v) : pz_V (gNo f) (gEn f) (gPay f) (gPl f) (gCh f) (wtg f) c v := by
  have ht : ∀ k, gEn f k = true → (f (1 + k)).toInt = 0 := fun k q => by unfold gEn at q; simpa using q
  have hf : ∀ k, gEn f k = false → ¬ (f (1 + k)).toInt = 0 := fun k q => by unfold gEn at q; simpa using q
  refine ⟨fun k hk h1 => h.1 k hk (ht k h1), fun k hk h1 h2 => h.2.1 k hk (hf k h1) (fun z => h2 ((g_RC hG hd hc hk).mp z)), fun k hk h1 h2 => ?_⟩
  have := h.2.2 k hk (hf k h1) ((g_RC hG hd hc hk).mpr h2)
  rw [g_sum hG hd hc hk (hf k h1), g_sum hG hd hc hk (hf k h1)] at this
  exact this
/-- the one worth of a play -/
noncomputable def vof (f : Nat → Int32) (c : Nat → Nat) : Nat → Rat := Classical.epsilon (fun v => VAL f (fun k => Int32.ofInt ((c k % 3 : Nat) : Int)) v)
theorem i32_mod (n : Nat) (h : n < 3) : (Int32.ofInt ((n % 3 : Nat) : Int)).toInt = (n : Int) := by
  rw [Nat.mod_eq_of_lt h]; exact i32_small (by omega)
theorem g_wys (hG : GS f) {k : Nat} (hk : k < gNo f) : wys f k ≤ 3 := by
  have h1 := hG.r.1
  unfold gNo at hk
  have := (hG.r.2.1 k (by omega)).2.2.1
  unfold wys; omega
theorem vof_V (hG : GS f) (c : Nat → Nat) (hc : pz_L (gNo f) (gPl f) (gAl f) c) : pz_V (gNo f) (gEn f) (gPay f) (gPl f) (gCh f) (wtg f) c (vof f c) := by
  have hx := VAL_ex hG (fun k => Int32.ofInt ((c k % 3 : Nat) : Int))
  exact g_V hG (fun k hk hp => i32_mod (c k) (by have := (hc k hk hp).1; have := g_wys hG hk; omega)) hc (Classical.epsilon_spec hx)
theorem vof_eq (hG : GS f) {d : Nat → Int32} {c : Nat → Nat} (hd : ∀ k, k < gNo f → gPl f k = true → (d k).toInt = (c k : Int)) (hc : pz_L (gNo f) (gPl f) (gAl f) c) {v : Nat → Rat} (h : VAL f d v) : ∀ k, k < gNo f → v k = vof f c k := pz_V_uniq (g_N hG) hc (g_V hG hd hc h) (vof_V hG c hc)
end GV
/-! laying fractions; the rows' filling -/
theorem tl_ne0 {b : Int64} (h : ¬ b.toInt = 0) : ¬ b = 0 := fun e => h (by rw [e]; decide)
theorem tl_i2l {x : Int32} {w : Int64} (h : w = x.toInt64) : w.toInt = x.toInt := by rw [h]; exact Int32.toInt_toInt64 x
theorem tl_cmpneg {w : Int64} {v : Int32} (hv : v = lg_cmp w 0) (h : ¬ 0 ≤ v) : w.toInt < 0 := by
  rw [hv] at h
  unfold lg_cmp at h
  by_cases q : w > 0
  · rw [if_pos q] at h; exact absurd (by decide) h
  · rw [if_neg q] at h
    by_cases q2 : w = 0
    · rw [if_pos q2] at h; exact absurd (by decide) h
    · have h3 : ¬ (0 : Int64).toInt < w.toInt := fun z => q (Int64.lt_iff_toInt_lt.mpr z)
      have h4 : ¬ w.toInt = 0 := tl_nz0 q2
      have h5 : (0 : Int64).toInt = 0 := by decide
      omega
def LYS (u l u' l' : Nat → Int64) (k : Nat) (a b : Int) : Prop := (∀ j, j ≠ k → u' j = u j ∧ l' j = l j) ∧ (0 ≤ a → (u' k).toInt * b = (l' k).toInt * a ∧ 0 < (l' k).toInt ∧ (l' k).toInt ≤ b ∧ 0 ≤ (u' k).toInt ∧ (u' k).toInt ≤ a ∧ (l' k).toInt ∣ b)
theorem tl_divx {x a d : Int64} (h : x = a / d) (hd : 0 < d.toInt) (ha : 0 ≤ a.toInt) (hv : d.toInt ∣ a.toInt) : x.toInt * d.toInt = a.toInt ∧ 0 ≤ x.toInt ∧ x.toInt ≤ a.toInt := by
  obtain ⟨q, hq⟩ := hv
  have h1 := tl_any a
  have hq0 : 0 ≤ q := by
    refine Int.not_lt.mp fun z => ?_
    have := Int.mul_le_mul_of_nonneg_left (show q ≤ -1 by omega) (show 0 ≤ d.toInt by omega)
    omega
  have hqa : q ≤ a.toInt := by
    have := Int.mul_le_mul_of_nonneg_right (show 1 ≤ d.toInt by omega) hq0
    omega
  have e : x.toInt = q := by rw [h]; exact tl_div (q := q) (by rw [hq, Int.mul_comm]) (by omega) (by omega) (by omega)
  rw [e]
  exact ⟨by rw [hq, Int.mul_comm], hq0, hqa⟩
theorem LYS_of {u l u' l' : Nat → Int64} {k : Nat} {a b d x y : Int64} (hd : ¬ d.toInt = 0 ∧ d.toInt ∣ a.toInt ∧ d.toInt ∣ b.toInt ∧ (0 ≤ a.toInt → 0 < d.toInt)) (hx : x = a / d) (hy : y = b / d) (hu : u' = fun j9 => if j9 = k then x else u j9) (hl : l' = fun j9 => if j9 = k then y else l j9) (hb : 0 < b.toInt) : LYS u l u' l' k a.toInt b.toInt := by
  subst hu hl
  refine ⟨fun j hj => ⟨if_neg hj, if_neg hj⟩, fun ha => ?_⟩
  have hdp := hd.2.2.2 ha
  obtain ⟨x1, x2, x3⟩ := tl_divx hx hdp ha hd.2.1
  obtain ⟨y1, y2, y3⟩ := tl_divx hy hdp (by omega) hd.2.2.1
  show (if k = k then x else u k).toInt * _ = (if k = k then y else l k).toInt * _ ∧ 0 < (if k = k then y else l k).toInt ∧ (if k = k then y else l k).toInt ≤ _ ∧ 0 ≤ (if k = k then x else u k).toInt ∧ (if k = k then x else u k).toInt ≤ _ ∧ (if k = k then y else l k).toInt ∣ _
  rw [if_pos rfl, if_pos rfl]
  have hy0 : 0 < y.toInt := by
    refine Int.not_le.mp fun z => ?_
    have e0 : y.toInt = 0 := by omega
    rw [e0, Int.zero_mul] at y1
    omega
  refine ⟨?_, hy0, y3, x2, x3, ⟨d.toInt, y1.symm⟩⟩
  rw [← y1, ← x1, Int.mul_left_comm]
/-- whole numbers laid as fractions by 1 -/
def UPA (g : Nat → Int) (u l : Nat → Int64) (m : Nat) : Prop := ∀ t, t < m → (u t).toInt = g t ∧ (l t).toInt = 1
theorem UPA_zero {g : Nat → Int} {u l : Nat → Int64} : UPA g u l 0 := fun t h => absurd h (by omega)
theorem UPA_next {g : Nat → Int} {u l u' l' : Nat → Int64} {m m2 : Nat} {a b : Int} (h : UPA g u l m) (hL : LYS u l u' l' m a b) (hb : b = 1) (ha : a = g m) (h0 : 0 ≤ a) (hm : m2 = m + 1) : UPA g u' l' m2 := by
  subst hm hb
  intro t ht
  by_cases e : t = m
  · subst e
    obtain ⟨h1, h2, h3, _⟩ := hL.2 h0
    have h4 : (l' t).toInt = 1 := by omega
    rw [h4] at h1
    exact ⟨by omega, h4⟩
  · rw [(hL.1 t e).1, (hL.1 t e).2]; exact h t (by omega)
theorem upay_end {f : Nat → Int32} {k : Nat} {w : Int64} {x : Int32} (hw : w = x.toInt64) (hx : x = f (13 + k)) (h : (f (1 + k)).toInt = 0) : w.toInt = upay f k := by
  rw [tl_i2l hw, hx]; unfold upay; rw [if_pos h]
theorem upay_not {f : Nat → Int32} {k : Nat} (h : ¬ (f (1 + k)).toInt = 0) : (0 : Int64).toInt = upay f k := by unfold upay; rw [if_neg h]; decide
theorem upay_rng {f : Nat → Int32} (hG : GS f) {t : Nat} (ht : t < (f 0).toInt.toNat) : 0 ≤ upay f t ∧ upay f t ≤ 9 := by
  have h0 := hG.r.1
  have := (hG.r.2.1 t (by omega)).2.1
  unfold upay
  split <;> omega
theorem zero_rng {n : Nat} : ∀ t, t < n → (0 : Int) ≤ (fun _ : Nat => (0 : Int)) t ∧ (fun _ : Nat => (0 : Int)) t ≤ 9 := fun _ _ => ⟨Int.le_refl _, (by decide : (0 : Int) ≤ 9)⟩
theorem RWI_notU {f c w v : Nat → Int32} {m m2 N N2 : Nat} {x : Int32} (h : RWI f c w m N) (hv : v = upd w m x) (hx : x.toInt = -1) (hS : ¬ rwS f c m) (hm : m2 = m + 1) (hN : N2 = N) : RWI f c v m2 N2 := by
  subst hv hN
  exact RWI_not h (fun k hk => upd_ne _ _ (by omega)) (by rw [upd_at]; exact hx) hS hm
theorem RWI_rowU {f c w v1 v : Nat → Int32} {m m2 N N2 : Nat} {x y : Int32} (h : RWI f c w m N) (hv1 : v1 = upd w m y) (hv : v = upd v1 m x) (hx : x.toInt = (N : Int)) (hS : rwS f c m) (hm : m2 = m + 1) (hN : N2 = N + 1) : RWI f c v m2 N2 := by
  subst hv hv1
  exact RWI_row h (fun k hk => by rw [upd_ne _ _ (by omega), upd_ne _ _ (by omega)]) (by rw [upd_at]; exact hx) hS hm hN
section FI
variable {f c w : Nat → Int32} {N K R : Nat} {a b e : Int} {u : Nat → Int} {ct ct2 ct3 ct4 : Nat → Nat → Int64}
theorem MAT_zero {A : Nat → Nat → Int} : MAT f c w N a b e u 0 A := fun k h => absurd h (by omega)
/-- another row's change leaves the rows before it -/
theorem MAT_tup (hR : RWI f c w (f 0).toInt.toNat N) (h : MAT f c w N a b e u K (tI ct)) {J : Nat} {z : Int64} (g : ct2 = tup ct R J z) (hK : K < (f 0).toInt.toNat) (hw : (w K).toInt = (R : Int)) : MAT f c w N a b e u K (tI ct2) := by
  intro k hk hwk j hj
  subst g
  show (tup ct R J z (w k).toInt.toNat j).toInt = _
  rw [tup_ne _ _ (Or.inl (fun z2 => by have := hR.2.2.1 k K (by omega) hK (by omega) hwk; omega))]
  exact h k hk hwk j hj
theorem MAT_next (h : MAT f c w N a b e u K (tI ct)) {K2 : Nat} (hw : 0 ≤ (w K).toInt → ∀ j, j ≤ N → (ct (w K).toInt.toNat j).toInt = arow f c w N a b e u K j) (hK : K2 = K + 1) : MAT f c w N a b e u K2 (tI ct) := by
  subst hK
  intro k hk hwk j hj
  by_cases q : k = K
  · subst q; exact hw hwk j hj
  · exact h k (by omega) hwk j hj
theorem ZRO_next {J J2 : Nat} {z : Int64} (h : ∀ j, j < J → (ct R j).toInt = 0) (g : ct2 = tup ct R J z) (hz : z.toInt = 0) (hJ : J2 = J + 1) : ∀ j, j < J2 → (ct2 R j).toInt = 0 := by
  subst g hJ
  intro j hj
  by_cases q : j = J
  · subst q; rw [tup_at]; exact hz
  · rw [tup_ne _ _ (Or.inr q)]; exact h j (by omega)
/-- a row half filled -/
def PRT (f c w : Nat → Int32) (N : Nat) (b : Int) (u : Nat → Int) (k i : Nat) (r : Nat → Int64) : Prop := ∀ j, j ≤ N → (r j).toInt = if j = N then b * gsm f c k (fun t => if (w t).toInt < 0 then u t else 0) i else -(b * gsm f c k (fun t => if (w t).toInt = (j : Int) then 1 else 0) i)
theorem PRT_start {J : Nat} {r : Nat → Int64} (h : ∀ j, j < J → (r j).toInt = 0) (hJ : N < J) : PRT f c w N b u K 0 r := by
  intro j hj
  rw [h j (by omega)]
  show 0 = if j = N then b * 0 else -(b * 0)
  rw [Int.mul_zero]; split <;> rfl
theorem gsm_sel {k i : Nat} {u : Nat → Int} (h : wsel f c k i) : gsm f c k u (i + 1) = gsm f c k u i + wwt f k i * u (wtg f k i) := by
  show gsm f c k u i + _ = _; rw [if_pos h]
theorem gsm_not {k i : Nat} {u : Nat → Int} (h : ¬ wsel f c k i) : gsm f c k u (i + 1) = gsm f c k u i := by
  show gsm f c k u i + _ = _; rw [if_neg h]; omega
theorem PRT_skip {i i2 : Nat} {r : Nat → Int64} (h : PRT f c w N b u K i r) (hs : ¬ wsel f c K i) (hi : i2 = i + 1) : PRT f c w N b u K i2 r := by
  subst hi
  intro j hj
  rw [h j hj, gsm_not hs, gsm_not hs]
theorem gsm_bd (hG : GS f) {k : Nat} (hk : k < 12) {u : Nat → Int} (hu : ∀ t, t < (f 0).toInt.toNat → 0 ≤ u t ∧ u t ≤ 9) : ∀ i, i ≤ wys f k → 0 ≤ gsm f c k u i ∧ gsm f c k u i ≤ 27 * i
  | 0, _ => by show (0 : Int) ≤ 0 ∧ (0 : Int) ≤ 27 * (0 : Nat); omega
  | i + 1, hi => by
    have ih := gsm_bd hG hk hu i (by omega)
    by_cases q : wsel f c k i
    · rw [gsm_sel q]
      have h1 := gs_w1 hG hk (show i < wys f k by omega)
      have h2 := hu (wtg f k i) (by omega)
      have h3 := Int.mul_nonneg (show 0 ≤ wwt f k i by omega) h2.1
      have h4 : wwt f k i * u (wtg f k i) ≤ 3 * 9 := Int.mul_le_mul h1.2.1 h2.2 h2.1 (by omega)
      omega
    · rw [gsm_not q]; omega
theorem gsm_b (hG : GS f) {k : Nat} (hk : k < 12) {u : Nat → Int} (hu : ∀ t, t < (f 0).toInt.toNat → 0 ≤ u t ∧ u t ≤ 9) {i : Nat} (hi : i ≤ wys f k) {b : Int} (hb : 0 ≤ b ∧ b ≤ 5) : 0 ≤ b * gsm f c k u i ∧ b * gsm f c k u i ≤ 405 := by
  have h1 := gsm_bd (c := c) hG hk hu i hi
  have h2 : wys f k ≤ 3 := by have := (hG.r.2.1 k hk).2.2.1; unfold wys; omega
  have h3 : b * gsm f c k u i ≤ 5 * 81 := Int.mul_le_mul hb.2 (by omega) h1.1 (by omega)
  exact ⟨Int.mul_nonneg hb.1 h1.1, by omega⟩
theorem ind_rng {w : Nat → Int32} {j : Nat} {n : Nat} : ∀ t, t < n → (0 : Int) ≤ (fun t => if (w t).toInt = (j : Int) then 1 else 0 : Nat → Int) t ∧ (fun t => if (w t).toInt = (j : Int) then 1 else 0 : Nat → Int) t ≤ 9 := fun t _ => by dsimp only; split <;> omega
theorem neg_rng {w : Nat → Int32} {u : Nat → Int} {n : Nat} (hu : ∀ t, t < n → 0 ≤ u t ∧ u t ≤ 9) : ∀ t, t < n → (0 : Int) ≤ (fun t => if (w t).toInt < 0 then u t else 0 : Nat → Int) t ∧ (fun t => if (w t).toInt < 0 then u t else 0 : Nat → Int) t ≤ 9 := fun t ht => by have := hu t ht; dsimp only; split <;> omega
/-- a weight -/
theorem wwt_chance {k i : Nat} {x : Int32} {g : Int64} (h : (f (1 + k)).toInt = 3) (hx : x = f (73 + 3 * k + i)) (hg : g = x.toInt64) : g.toInt = wwt f k i := by
  rw [tl_i2l hg, hx]; unfold wwt; rw [if_pos h]
theorem wwt_player {k i : Nat} (h : ¬ (f (1 + k)).toInt = 3) : (1 : Int64).toInt = wwt f k i := by unfold wwt; rw [if_neg h]; decide
theorem tl_small {x y : Int64} {B C : Int} (hx : -1000 ≤ x.toInt ∧ x.toInt ≤ 1000) (hy : -1000 ≤ y.toInt ∧ y.toInt ≤ 1000) : (x + y).toInt = x.toInt + y.toInt ∧ (x - y).toInt = x.toInt - y.toInt ∧ (x * y).toInt = x.toInt * y.toInt ∧ -1000000 ≤ x.toInt * y.toInt ∧ x.toInt * y.toInt ≤ 1000000 := by
  have h := tl_absmul (A := 1000) (B := 1000) hx hy
  exact ⟨tl_add (by omega) (by omega), tl_sub (by omega) (by omega), tl_mul (by omega) (by omega), by omega, by omega⟩
theorem PRT_row (hG : GS f) (hK : K < 12) (hb : 0 ≤ b ∧ b ≤ 5) {i i2 : Nat} (h : PRT f c w N b u K i (ct R)) (hi : i < wys f K) (hs : wsel f c K i) {t v : Int32} {p g x m y : Int64} {J : Nat} (ht : t = f (37 + 3 * K + i)) (hv : v = w t.toInt.toNat) (hvJ : v.toInt = (J : Int)) (hJ : J < N) (hp : p.toInt = b) (hg : g.toInt = wwt f K i) (hx : x = ct R J) (hm : m = p * g) (hy : y = x - m) (gc2 : ct2 = tup ct R J y) (hi2 : i2 = i + 1) : PRT f c w N b u K i2 (ct2 R) := by
  subst hi2 gc2
  have hw := gs_w1 hG hK hi
  have et : wtg f K i = t.toInt.toNat := by unfold wtg; rw [← ht]
  have eJ : (w (wtg f K i)).toInt = (J : Int) := by rw [et, ← hv]; exact hvJ
  intro j hj
  by_cases q : j = J
  · subst q
    rw [tup_at, if_neg (by omega), gsm_sel hs]
    rw [if_pos eJ, Int.mul_one, Int.mul_add]
    have h1 := h j hj
    rw [if_neg (by omega), ← hx] at h1
    have h2 := gsm_b (c := c) hG hK (u := fun t => if (w t).toInt = (j : Int) then 1 else 0) ind_rng (i := i) (by omega) hb
    have h3 := tl_small (B := 0) (C := 0) (x := p) (y := g) (by omega) (by omega)
    have h4 : b * wwt f K i ≤ 5 * 3 := Int.mul_le_mul hb.2 hw.2.1 (by omega) (by omega)
    have h5 := Int.mul_nonneg hb.1 (show 0 ≤ wwt f K i by omega)
    have em : m.toInt = b * wwt f K i := by rw [hm, h3.2.2.1, hp, hg]
    rw [hy, (tl_small (B := 0) (C := 0) (x := x) (y := m) (by omega) (by omega)).2.1]
    omega
  · rw [tup_ne _ _ (Or.inr q), h j hj, gsm_sel hs, gsm_sel hs]
    rw [eJ, if_neg (show ¬ (J : Int) < 0 by omega), if_neg (show ¬ (J : Int) = (j : Int) by omega)]
    simp only [Int.mul_zero, Int.add_zero]
theorem PRT_end (hG : GS f) (hK : K < 12) (hb : 0 ≤ b ∧ b ≤ 5) (hu : ∀ t, t < (f 0).toInt.toNat → 0 ≤ u t ∧ u t ≤ 9) {i i2 : Nat} (h : PRT f c w N b u K i (ct R)) (hR : RWI f c w (f 0).toInt.toNat N) (hi : i < wys f K) (hs : wsel f c K i) {t v : Int32} {p g x m m2 z y : Int64} (ht : t = f (37 + 3 * K + i)) (hv : v = w t.toInt.toNat) (hv0 : v.toInt < 0) (hp : p.toInt = b) (hg : g.toInt = wwt f K i) (hx : x = ct R N) (hm : m = p * g) (hz : z.toInt = u t.toInt.toNat) (hm2 : m2 = m * z) (hy : y = x + m2) (gc2 : ct2 = tup ct R N y) (hi2 : i2 = i + 1) : PRT f c w N b u K i2 (ct2 R) := by
  subst hi2 gc2
  have hw := gs_w1 hG hK hi
  have et : wtg f K i = t.toInt.toNat := by unfold wtg; rw [← ht]
  have eJ : (w (wtg f K i)).toInt < 0 := by rw [et, ← hv]; exact hv0
  have hut := hu (wtg f K i) (by omega)
  intro j hj
  by_cases q : j = N
  · subst q
    rw [tup_at, if_pos rfl, gsm_sel hs]
    rw [if_pos eJ, Int.mul_add]
    have h1 := h j hj
    rw [if_pos rfl, ← hx] at h1
    have h2 := gsm_b (c := c) hG hK (u := fun t => if (w t).toInt < 0 then u t else 0) (neg_rng hu) (i := i) (by omega) hb
    have h3 := tl_small (B := 0) (C := 0) (x := p) (y := g) (by omega) (by omega)
    have h4 : b * wwt f K i ≤ 5 * 3 := Int.mul_le_mul hb.2 hw.2.1 (by omega) (by omega)
    have h5 := Int.mul_nonneg hb.1 (show 0 ≤ wwt f K i by omega)
    have em : m.toInt = b * wwt f K i := by rw [hm, h3.2.2.1, hp, hg]
    rw [← et] at hz
    have h6 := tl_small (B := 0) (C := 0) (x := m) (y := z) (by omega) (by omega)
    have h7 : m.toInt * z.toInt ≤ 15 * 9 := Int.mul_le_mul (by omega) (by omega) (by omega) (by omega)
    have h8 := Int.mul_nonneg (show 0 ≤ m.toInt by omega) (show 0 ≤ z.toInt by omega)
    have em2 : m2.toInt = b * (wwt f K i * u (wtg f K i)) := by rw [hm2, h6.2.2.1, em, hz, Int.mul_assoc]
    rw [hy, (tl_small (B := 0) (C := 0) (x := x) (y := m2) (by omega) (by rw [hm2, h6.2.2.1]; omega)).1]
    omega
  · have hne : ¬ (w (wtg f K i)).toInt = (j : Int) := by omega
    rw [tup_ne _ _ (Or.inr q), h j hj, gsm_sel hs, gsm_sel hs]
    rw [if_neg q, if_neg q]
    rw [if_neg hne, Int.mul_zero, Int.add_zero]
theorem ALL_next {i i2 : Nat} {g al y : Int64} (hG : GS f) (hK : K < 12) (h : al.toInt = gsm f c K (fun _ => 1) i) (hi : i < wys f K) (hs : wsel f c K i) (hg : g.toInt = wwt f K i) (hy : y = al + g) (hi2 : i2 = i + 1) : y.toInt = gsm f c K (fun _ => 1) i2 := by
  subst hi2
  have hw := gs_w1 hG hK hi
  have h1 := gsm_bd (c := c) hG hK (u := fun _ => 1) (fun _ _ => by omega) i (by omega)
  have h2 : wys f K ≤ 3 := by have := (hG.r.2.1 K hK).2.2.1; unfold wys; omega
  rw [gsm_sel hs, hy, (tl_small (B := 0) (C := 0) (x := al) (y := g) (by omega) (by omega)).1]
  omega
theorem PRT_done (hG : GS f) (hR : RWI f c w (f 0).toInt.toNat N) (hM : MAT f c w N a b e u K (tI ct)) (ha : 0 ≤ a ∧ a ≤ 5) (hb : 0 ≤ b ∧ b ≤ 5) (he : 0 ≤ e ∧ e ≤ 1) (hu : ∀ t, t < (f 0).toInt.toNat → 0 ≤ u t ∧ u t ≤ 9) (hK : K < (f 0).toInt.toNat) {i K2 : Nat} (h : PRT f c w N b u K i (ct R)) (hi : i = wys f K) (hw : (w K).toInt = (R : Int)) (hRN : R < N) {al p m x y q m2 x2 y2 : Int64} (hal : al.toInt = gsm f c K (fun _ => 1) i) (hp : p.toInt = a) (hm : m = p * al) (hx : x = ct R R) (hy : y = x + m) (g2 : ct2 = tup ct R R y) (hq : q.toInt = e) (hm2 : m2 = q * al) (hx2 : x2 = ct2 R N) (hy2 : y2 = x2 + m2) (g3 : ct3 = tup ct2 R N y2) (hK2 : K2 = K + 1) : MAT f c w N a b e u K2 (tI ct3) := by
  have h0 := hG.r.1
  have hM2 := MAT_tup hR (MAT_tup hR hM g2 hK hw) g3 hK hw
  refine MAT_next hM2 (fun _ j hj => ?_) hK2
  have hK12 : K < 12 := by omega
  have h2 : wys f K ≤ 3 := by have := (hG.r.2.1 K hK12).2.2.1; unfold wys; omega
  have h1 := gsm_bd (c := c) hG hK12 (u := fun _ => 1) (fun _ _ => by omega) i (by omega)
  rw [show (w K).toInt.toNat = R by omega]
  have hpa := tl_small (B := 0) (C := 0) (x := p) (y := al) (by omega) (by omega)
  have hqa := tl_small (B := 0) (C := 0) (x := q) (y := al) (by omega) (by omega)
  have em : m.toInt = a * gsm f c K (fun _ => 1) i := by rw [hm, hpa.2.2.1, hp, hal]
  have em2 : m2.toInt = e * gsm f c K (fun _ => 1) i := by rw [hm2, hqa.2.2.1, hq, hal]
  have b1 := gsm_b (c := c) hG hK12 (u := fun _ => 1) (fun _ _ => by omega) (i := i) (by omega) ha
  have b2 := gsm_b (c := c) hG hK12 (u := fun _ => 1) (fun _ _ => by omega) (i := i) (b := e) (by omega) (by omega)
  have hR0 := h R (by omega)
  rw [if_neg (by omega), ← hx] at hR0
  have hN0 := h N (Nat.le_refl _)
  rw [if_pos rfl] at hN0
  have ex2 : x2 = ct R N := by rw [hx2, g2, tup_ne _ _ (Or.inr (by omega))]
  rw [← ex2] at hN0
  have b3 := gsm_b (c := c) hG hK12 (u := fun t => if (w t).toInt = (R : Int) then 1 else 0) ind_rng (i := i) (by omega) hb
  have b4 := gsm_b (c := c) hG hK12 (u := fun t => if (w t).toInt < 0 then u t else 0) (neg_rng hu) (i := i) (by omega) hb
  unfold arow
  rw [← hi]
  by_cases q1 : j = N
  · subst q1
    rw [g3, tup_at, if_pos rfl, hy2, (tl_small (B := 0) (C := 0) (x := x2) (y := m2) (by omega) (by omega)).1, hN0, em2]
  · rw [if_neg q1, g3, tup_ne _ _ (Or.inr q1)]
    by_cases q2 : j = R
    · subst q2
      rw [g2, tup_at, if_pos hw, hy, (tl_small (B := 0) (C := 0) (x := x) (y := m) (by omega) (by omega)).1, hR0, em]
      omega
    · rw [g2, tup_ne _ _ (Or.inr q2), if_neg (by omega), h j hj, if_neg q1]
      omega
/-- what the solving lays -/
def PLD (w : Nat → Int32) (N : Nat) (A : Nat → Nat → Int) (u0 l0 u l : Nat → Int64) (m : Nat) : Prop := (∀ t, (m ≤ t ∨ (w t).toInt < 0) → u t = u0 t ∧ l t = l0 t) ∧ ∀ t, t < m → 0 ≤ (w t).toInt → (u t).toInt * eb A N = (l t).toInt * eX A N (w t).toInt.toNat N ∧ 0 < (l t).toInt ∧ (l t).toInt ≤ eb A N ∧ 0 ≤ (u t).toInt ∧ (u t).toInt ≤ eX A N (w t).toInt.toNat N
theorem PLD_zero {A : Nat → Nat → Int} {u0 l0 : Nat → Int64} : PLD w N A u0 l0 u0 l0 0 := ⟨fun _ _ => ⟨rfl, rfl⟩, fun t h => absurd h (by omega)⟩
theorem PLD_skip {A : Nat → Nat → Int} {u0 l0 u l : Nat → Int64} {m m2 : Nat} (h : PLD w N A u0 l0 u l m) (hw : (w m).toInt < 0) (hm : m2 = m + 1) : PLD w N A u0 l0 u l m2 := by
  subst hm
  refine ⟨fun t ht => h.1 t (by omega), fun t ht h0 => ?_⟩
  by_cases q : t = m
  · subst q; omega
  · exact h.2 t (by omega) h0
theorem PLD_next {A : Nat → Nat → Int} {u0 l0 u l u' l' : Nat → Int64} {m m2 : Nat} {a b : Int} (h : PLD w N A u0 l0 u l m) (hw : 0 ≤ (w m).toInt) (hL : LYS u l u' l' m a b) (ha : a = eX A N (w m).toInt.toNat N) (hb : b = eb A N) (ha0 : 0 ≤ a) (hm : m2 = m + 1) : PLD w N A u0 l0 u' l' m2 := by
  subst hm
  refine ⟨fun t ht => ?_, fun t ht h0 => ?_⟩
  · have q : t ≠ m := fun z => by subst z; omega
    rw [(hL.1 t q).1, (hL.1 t q).2]
    exact h.1 t (by omega)
  · by_cases q : t = m
    · subst q
      obtain ⟨h1, h2, h3, h4, h5, _⟩ := hL.2 ha0
      rw [← ha, ← hb]
      exact ⟨h1, h2, h3, h4, h5⟩
    · rw [(hL.1 t q).1, (hL.1 t q).2]
      exact h.2 t (by omega) h0
/-- what a play brings, as fractions -/
def PLV (f c : Nat → Int32) (u l : Nat → Int64) : Prop := ∃ v, VAL f c v ∧ ∀ t, t < (f 0).toInt.toNat → 0 < (l t).toInt ∧ (l t).toInt ≤ 400000000 ∧ 0 ≤ (u t).toInt ∧ (u t).toInt ≤ 3600000000 ∧ (((u t).toInt : Int) : Rat) = (((l t).toInt : Int) : Rat) * v t
theorem PLV_of (hG : GS f) (hR : RWI f c w (f 0).toInt.toNat N) {A : Nat → Nat → Int} (hM : MAT f c w N 1 1 0 (upay f) (f 0).toInt.toNat A) {u0 l0 u l : Nat → Int64} {m : Nat} (hU : UPA (upay f) u0 l0 (f 0).toInt.toNat) (h : PLD w N A u0 l0 u l m) (hm : m = (f 0).toInt.toNat) : PLV f c u l := by
  subst hm
  have hE := MAT_EH hG hR hM (by omega) (by omega)
  have hL := MAT_LOK hG hR hM (by omega) (fun t ht => upay_rng hG ht)
  refine ⟨_, MAT_VAL hG hR hM (fun _ _ => rfl), fun t ht => ?_⟩
  by_cases q : 0 ≤ (w t).toInt
  · rw [if_pos q]
    have hN := (hR.1 t ht).2
    obtain ⟨h1, h2, h3, h4, h5⟩ := h.2 t ht q
    have b1 := hE.blt (c := N) (Nat.le_refl _)
    have b2 := hE.jb (c := N) (Nat.le_refl _) (i := (w t).toInt.toNat) (by omega) (Or.inr ⟨rfl, hL⟩)
    have b3 := hE.bpos (c := N) (Nat.le_refl _)
    refine ⟨h2, by omega, h4, by omega, ?_⟩
    have hbR : ((eb A N : Int) : Rat) ≠ 0 := by
      intro z
      have : eb A N = 0 := by exact_mod_cast z
      omega
    have e1 : (((u t).toInt : Int) : Rat) * ((eb A N : Int) : Rat) = (((l t).toInt : Int) : Rat) * ((eX A N (w t).toInt.toNat N : Int) : Rat) := by rw [← Rat.intCast_mul, h1, Rat.intCast_mul]
    generalize ((eX A N (w t).toInt.toNat N : Int) : Rat) = X at e1 ⊢
    generalize ((eb A N : Int) : Rat) = B at e1 hbR ⊢
    have e2 : (((u t).toInt : Int) : Rat) = (((u t).toInt : Int) : Rat) * B / B := (Rat.mul_div_cancel hbR).symm
    rw [e2, e1]
    grind
  · rw [if_neg q]
    obtain ⟨h1, h2⟩ := h.1 t (Or.inr (by omega))
    obtain ⟨h3, h4⟩ := hU t ht
    have h5 := upay_rng hG ht
    rw [h1, h2, h3, h4]
    refine ⟨by omega, by omega, by omega, by omega, ?_⟩
    rw [show ((1 : Int) : Rat) = 1 from rfl]; grind
theorem PLV_last (hG : GS f) (hR : RWI f c w (f 0).toInt.toNat N) {A : Nat → Nat → Int} (hM : MAT f c w N 1 1 0 (upay f) (f 0).toInt.toNat A) {ct : Nat → Nat → Int64} (hS : SM N A N ct) {k : Nat} (hk : k < (f 0).toInt.toNat) (hw : 0 ≤ (w k).toInt) {x : Int64} (hx : x = ct (w k).toInt.toNat N) : x.toInt = eX A N (w k).toInt.toNat N ∧ 0 ≤ x.toInt := by
  have hE := MAT_EH hG hR hM (by omega) (by omega)
  have hL := MAT_LOK hG hR hM (by omega) (fun t ht => upay_rng hG ht)
  have hN := (hR.1 k hk).2
  have e : x.toInt = eX A N (w k).toInt.toNat N := by rw [hx]; exact hS _ _ (by omega) (Or.inr ⟨rfl, hL⟩)
  refine ⟨e, ?_⟩
  rw [e]
  refine hE.nonneg (fun i hi => ?_) _ (by omega)
  obtain ⟨k2, hk2, e2⟩ := hR.2.1 i hi
  have hA := hM k2 hk2 (by omega) N (Nat.le_refl _)
  rw [show (w k2).toInt.toNat = i by omega] at hA
  rw [hA]
  unfold arow
  rw [if_pos rfl, Int.zero_mul, Int.add_zero, Int.one_mul]
  have h0 := hG.r.1
  exact (gsm_bd (c := c) hG (k := k2) (by omega) (neg_rng (fun t ht => upay_rng hG ht)) (wys f k2) (Nat.le_refl _)).1
theorem ALL_skip {i i2 : Nat} {al : Int64} (h : al.toInt = gsm f c K (fun _ => 1) i) (hs : ¬ wsel f c K i) (hi2 : i2 = i + 1) : al.toInt = gsm f c K (fun _ => 1) i2 := by
  subst hi2
  rw [gsm_not hs]; exact h
theorem to_lt (hG : GS f) (hK : K < 12) {i : Nat} {t : Int32} (hi : (i : Int) < (f (25 + K)).toInt) (ht : t = f (37 + 3 * K + i)) : 0 ≤ t.toInt ∧ t.toInt < (f 0).toInt := by
  have h := gs_w1 hG hK (i := i) (by unfold wys; omega)
  rw [ht]; omega
end FI
