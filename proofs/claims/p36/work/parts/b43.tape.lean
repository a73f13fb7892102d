theorem qw_0 : Cond.fieldLink RX12 1 "ChanceRingsModel" "thrown" "I" ∈ wsL_law := tseg_5 (by decide +kernel) (List.mem_of_getElem? (i := 127) rfl)
theorem qw_1 : Cond.methodLink RX12 95 yX12_isIn ∈ wsL_law := tseg_6 (by decide +kernel) (List.mem_of_getElem? (i := 32) rfl)
theorem qw_2 : Cond.static yX12_isIn ∈ wsL_law := tseg_6 (by decide +kernel) (List.mem_of_getElem? (i := 33) rfl)
theorem qw_3 : Cond.initialized RX12 ∈ wsL_law := tseg_1 (by decide +kernel) (List.mem_of_getElem? (i := 17) rfl)
theorem qw_4 : Cond.code yX12_isIn cX12_isIn 3 (some .boolean) ∈ wsL_law := tseg_6 (by decide +kernel) (List.mem_of_getElem? (i := 34) rfl)
theorem qw_5 : Cond.fieldLink RX12 33 "ChanceRingsModel" "tape" "[B" ∈ wsL_law := tseg_5 (by decide +kernel) (List.mem_of_getElem? (i := 135) rfl)
theorem qw_6 : Cond.fieldLink RX12 82 "ChanceRingsModel" "length" "I" ∈ wsL_law := tseg_5 (by decide +kernel) (List.mem_of_getElem? (i := 136) rfl)
theorem qw_7 : Cond.methodLink RX12 85 yX12_four ∈ wsL_law := tseg_5 (by decide +kernel) (List.mem_of_getElem? (i := 237) rfl)
theorem qw_8 : Cond.instanceMethod yX12_four ∈ wsL_law := tseg_5 (by decide +kernel) (List.mem_of_getElem? (i := 239) rfl)
theorem qw_9 : Cond.selects RX12 yX12_four yX12_four ∈ wsL_law := List.mem_filter.mpr ⟨List.mem_append_left _ (List.mem_of_getElem? (i := 48) rfl), by decide +kernel⟩
theorem qw_10 : Cond.code yX12_four cX12_four 3 none ∈ wsL_law := tseg_6 (by decide +kernel) (List.mem_of_getElem? (i := 0) rfl)
theorem qw_11 : Cond.fieldLink RX12 89 "ChanceRingsModel" "size" "I" ∈ wsL_law := tseg_5 (by decide +kernel) (List.mem_of_getElem? (i := 137) rfl)
theorem dX12_end_0 : decode cX12_end 0 = .ok (.aload_n 0, 1) := by decide +kernel
theorem dX12_end_1 : decode cX12_end 1 = .ok (.iconst 0, 1) := by decide +kernel
theorem dX12_end_2 : decode cX12_end 2 = .ok (.putfield 1, 3) := by decide +kernel
theorem dX12_end_5 : decode cX12_end 5 = .ok (.iload_n 1, 1) := by decide +kernel
theorem dX12_end_6 : decode cX12_end 6 = .ok (.ifCond .lt 11, 3) := by decide +kernel
theorem dX12_end_9 : decode cX12_end 9 = .ok (.iload_n 1, 1) := by decide +kernel
theorem dX12_end_10 : decode cX12_end 10 = .ok (.aload_n 0, 1) := by decide +kernel
theorem dX12_end_11 : decode cX12_end 11 = .ok (.getfield 82, 3) := by decide +kernel
theorem dX12_end_14 : decode cX12_end 14 = .ok (.if_icmp .le 5, 3) := by decide +kernel
theorem dX12_end_17 : decode cX12_end 17 = .ok (.iconst 0, 1) := by decide +kernel
theorem dX12_end_18 : decode cX12_end 18 = .ok (.ireturn, 1) := by decide +kernel
theorem dX12_end_19 : decode cX12_end 19 = .ok (.aload_n 0, 1) := by decide +kernel
theorem dX12_end_20 : decode cX12_end 20 = .ok (.iload_n 1, 1) := by decide +kernel
theorem dX12_end_21 : decode cX12_end 21 = .ok (.putfield 82, 3) := by decide +kernel
theorem dX12_end_24 : decode cX12_end 24 = .ok (.iconst 1, 1) := by decide +kernel
theorem dX12_end_25 : decode cX12_end 25 = .ok (.ireturn, 1) := by decide +kernel
theorem dX12_feed_0 : decode cX12_feed 0 = .ok (.aload_n 0, 1) := by decide +kernel
theorem dX12_feed_1 : decode cX12_feed 1 = .ok (.iconst 0, 1) := by decide +kernel
theorem dX12_feed_2 : decode cX12_feed 2 = .ok (.putfield 1, 3) := by decide +kernel
theorem dX12_feed_5 : decode cX12_feed 5 = .ok (.aload_n 0, 1) := by decide +kernel
theorem dX12_feed_6 : decode cX12_feed 6 = .ok (.getfield 82, 3) := by decide +kernel
theorem dX12_feed_9 : decode cX12_feed 9 = .ok (.bipush 20, 2) := by decide +kernel
theorem dX12_feed_11 : decode cX12_feed 11 = .ok (.iadd, 1) := by decide +kernel
theorem dX12_feed_12 : decode cX12_feed 12 = .ok (.sipush 440, 3) := by decide +kernel
theorem dX12_feed_15 : decode cX12_feed 15 = .ok (.if_icmp .le 5, 3) := by decide +kernel
theorem dX12_feed_18 : decode cX12_feed 18 = .ok (.iconst (-1), 1) := by decide +kernel
theorem dX12_feed_19 : decode cX12_feed 19 = .ok (.ireturn, 1) := by decide +kernel
theorem dX12_feed_20 : decode cX12_feed 20 = .ok (.aload_n 0, 1) := by decide +kernel
theorem dX12_feed_21 : decode cX12_feed 21 = .ok (.iload_n 1, 1) := by decide +kernel
theorem dX12_feed_22 : decode cX12_feed 22 = .ok (.invokevirtual 85, 3) := by decide +kernel
theorem dX12_feed_25 : decode cX12_feed 25 = .ok (.aload_n 0, 1) := by decide +kernel
theorem dX12_feed_26 : decode cX12_feed 26 = .ok (.iload_n 2, 1) := by decide +kernel
theorem dX12_feed_27 : decode cX12_feed 27 = .ok (.invokevirtual 85, 3) := by decide +kernel
theorem dX12_feed_30 : decode cX12_feed 30 = .ok (.aload_n 0, 1) := by decide +kernel
theorem dX12_feed_31 : decode cX12_feed 31 = .ok (.iload_n 3, 1) := by decide +kernel
theorem dX12_feed_32 : decode cX12_feed 32 = .ok (.invokevirtual 85, 3) := by decide +kernel
theorem dX12_feed_35 : decode cX12_feed 35 = .ok (.aload_n 0, 1) := by decide +kernel
theorem dX12_feed_36 : decode cX12_feed 36 = .ok (.iload 4, 2) := by decide +kernel
theorem dX12_feed_38 : decode cX12_feed 38 = .ok (.invokevirtual 85, 3) := by decide +kernel
theorem dX12_feed_41 : decode cX12_feed 41 = .ok (.aload_n 0, 1) := by decide +kernel
theorem dX12_feed_42 : decode cX12_feed 42 = .ok (.iload 5, 2) := by decide +kernel
theorem dX12_feed_44 : decode cX12_feed 44 = .ok (.invokevirtual 85, 3) := by decide +kernel
theorem dX12_feed_47 : decode cX12_feed 47 = .ok (.aload_n 0, 1) := by decide +kernel
theorem dX12_feed_48 : decode cX12_feed 48 = .ok (.getfield 82, 3) := by decide +kernel
theorem dX12_feed_51 : decode cX12_feed 51 = .ok (.ireturn, 1) := by decide +kernel
theorem dX12_four_0 : decode cX12_four 0 = .ok (.bipush 24, 2) := by decide +kernel
theorem dX12_four_2 : decode cX12_four 2 = .ok (.istore_n 2, 1) := by decide +kernel
theorem dX12_four_3 : decode cX12_four 3 = .ok (.iload_n 2, 1) := by decide +kernel
theorem dX12_four_4 : decode cX12_four 4 = .ok (.ifCond .lt 32, 3) := by decide +kernel
theorem dX12_four_7 : decode cX12_four 7 = .ok (.aload_n 0, 1) := by decide +kernel
theorem dX12_four_8 : decode cX12_four 8 = .ok (.getfield 33, 3) := by decide +kernel
theorem dX12_four_11 : decode cX12_four 11 = .ok (.aload_n 0, 1) := by decide +kernel
theorem dX12_four_12 : decode cX12_four 12 = .ok (.getfield 82, 3) := by decide +kernel
theorem dX12_four_15 : decode cX12_four 15 = .ok (.iload_n 1, 1) := by decide +kernel
theorem dX12_four_16 : decode cX12_four 16 = .ok (.iload_n 2, 1) := by decide +kernel
theorem dX12_four_17 : decode cX12_four 17 = .ok (.ishr, 1) := by decide +kernel
theorem dX12_four_18 : decode cX12_four 18 = .ok (.i2b, 1) := by decide +kernel
theorem dX12_four_19 : decode cX12_four 19 = .ok (.bastore, 1) := by decide +kernel
theorem dX12_four_20 : decode cX12_four 20 = .ok (.aload_n 0, 1) := by decide +kernel
theorem dX12_four_21 : decode cX12_four 21 = .ok (.dup, 1) := by decide +kernel
theorem dX12_four_22 : decode cX12_four 22 = .ok (.getfield 82, 3) := by decide +kernel
theorem dX12_four_25 : decode cX12_four 25 = .ok (.iconst 1, 1) := by decide +kernel
theorem dX12_four_26 : decode cX12_four 26 = .ok (.iadd, 1) := by decide +kernel
theorem dX12_four_27 : decode cX12_four 27 = .ok (.putfield 82, 3) := by decide +kernel
theorem dX12_four_30 : decode cX12_four 30 = .ok (.iinc 2 (-8), 3) := by decide +kernel
theorem dX12_four_33 : decode cX12_four 33 = .ok (.goto (-30), 3) := by decide +kernel
theorem dX12_four_36 : decode cX12_four 36 = .ok (.return_, 1) := by decide +kernel
theorem dX12_isDigit_0 : decode cX12_isDigit 0 = .ok (.iload_n 0, 1) := by decide +kernel
theorem dX12_isDigit_1 : decode cX12_isDigit 1 = .ok (.bipush 48, 2) := by decide +kernel
theorem dX12_isDigit_3 : decode cX12_isDigit 3 = .ok (.bipush 57, 2) := by decide +kernel
theorem dX12_isDigit_5 : decode cX12_isDigit 5 = .ok (.invokestatic 95, 3) := by decide +kernel
theorem dX12_isDigit_8 : decode cX12_isDigit 8 = .ok (.ireturn, 1) := by decide +kernel
theorem dX12_isIn_0 : decode cX12_isIn 0 = .ok (.iload_n 0, 1) := by decide +kernel
theorem dX12_isIn_1 : decode cX12_isIn 1 = .ok (.iload_n 1, 1) := by decide +kernel
theorem dX12_isIn_2 : decode cX12_isIn 2 = .ok (.if_icmp .lt 12, 3) := by decide +kernel
theorem dX12_isIn_5 : decode cX12_isIn 5 = .ok (.iload_n 0, 1) := by decide +kernel
theorem dX12_isIn_6 : decode cX12_isIn 6 = .ok (.iload_n 2, 1) := by decide +kernel
theorem dX12_isIn_7 : decode cX12_isIn 7 = .ok (.if_icmp .gt 7, 3) := by decide +kernel
theorem dX12_isIn_10 : decode cX12_isIn 10 = .ok (.iconst 1, 1) := by decide +kernel
theorem dX12_isIn_11 : decode cX12_isIn 11 = .ok (.goto 4, 3) := by decide +kernel
theorem dX12_isIn_14 : decode cX12_isIn 14 = .ok (.iconst 0, 1) := by decide +kernel
theorem dX12_isIn_15 : decode cX12_isIn 15 = .ok (.ireturn, 1) := by decide +kernel
theorem dX12_isSmall_0 : decode cX12_isSmall 0 = .ok (.iload_n 0, 1) := by decide +kernel
theorem dX12_isSmall_1 : decode cX12_isSmall 1 = .ok (.bipush 97, 2) := by decide +kernel
theorem dX12_isSmall_3 : decode cX12_isSmall 3 = .ok (.bipush 122, 2) := by decide +kernel
theorem dX12_isSmall_5 : decode cX12_isSmall 5 = .ok (.invokestatic 95, 3) := by decide +kernel
theorem dX12_isSmall_8 : decode cX12_isSmall 8 = .ok (.ireturn, 1) := by decide +kernel
theorem dX12_taken_0 : decode cX12_taken 0 = .ok (.aload_n 0, 1) := by decide +kernel
theorem dX12_taken_1 : decode cX12_taken 1 = .ok (.iconst 0, 1) := by decide +kernel
theorem dX12_taken_2 : decode cX12_taken 2 = .ok (.putfield 1, 3) := by decide +kernel
theorem dX12_taken_5 : decode cX12_taken 5 = .ok (.aload_n 0, 1) := by decide +kernel
theorem dX12_taken_6 : decode cX12_taken 6 = .ok (.aload_n 0, 1) := by decide +kernel
theorem dX12_taken_7 : decode cX12_taken 7 = .ok (.getfield 82, 3) := by decide +kernel
theorem dX12_taken_10 : decode cX12_taken 10 = .ok (.putfield 89, 3) := by decide +kernel
theorem dX12_taken_13 : decode cX12_taken 13 = .ok (.aload_n 0, 1) := by decide +kernel
theorem dX12_taken_14 : decode cX12_taken 14 = .ok (.iconst 0, 1) := by decide +kernel
theorem dX12_taken_15 : decode cX12_taken 15 = .ok (.putfield 82, 3) := by decide +kernel
theorem dX12_taken_18 : decode cX12_taken 18 = .ok (.return_, 1) := by decide +kernel
theorem dX12_throwsIf_0 : decode cX12_throwsIf 0 = .ok (.aload_n 0, 1) := by decide +kernel
theorem dX12_throwsIf_1 : decode cX12_throwsIf 1 = .ok (.iload_n 1, 1) := by decide +kernel
theorem dX12_throwsIf_2 : decode cX12_throwsIf 2 = .ok (.ifCond .eq 7, 3) := by decide +kernel
theorem dX12_throwsIf_5 : decode cX12_throwsIf 5 = .ok (.iconst 1, 1) := by decide +kernel
theorem dX12_throwsIf_6 : decode cX12_throwsIf 6 = .ok (.goto 4, 3) := by decide +kernel
theorem dX12_throwsIf_9 : decode cX12_throwsIf 9 = .ok (.iconst 0, 1) := by decide +kernel
theorem dX12_throwsIf_10 : decode cX12_throwsIf 10 = .ok (.putfield 1, 3) := by decide +kernel
theorem dX12_throwsIf_13 : decode cX12_throwsIf 13 = .ok (.iload_n 1, 1) := by decide +kernel
theorem dX12_throwsIf_14 : decode cX12_throwsIf 14 = .ok (.ireturn, 1) := by decide +kernel
theorem tk_m1 : ((-1) : Int32).toInt = (-1) := by decide
theorem tk_0 : (0 : Int32).toInt = 0 := by decide
theorem tk_1 : (1 : Int32).toInt = 1 := by decide
theorem tk_48 : (48 : Int32).toInt = 48 := by decide
theorem tk_57 : (57 : Int32).toInt = 57 := by decide
theorem tk_97 : (97 : Int32).toInt = 97 := by decide
theorem tk_122 : (122 : Int32).toInt = 122 := by decide
theorem tk_440 : (440 : Int32).toInt = 440 := by decide
set_option maxHeartbeats 4000000 in
set_option maxRecDepth 100000 in
theorem c_X12_throwsIf (l : Launch) (D : va_G) (g : Nat → ClassId) (sz : Nat) (mm : Nat) (p0 : Int32) (i_thrown : Int32) (m_s : Nat) (m_spare : Nat) (m_kept : Nat) (m_undone : Nat) (m_triedWay : Nat) (m_isKept : Nat) (i_undoMany : Int32) (m_tape : Nat) (i_length : Int32) (i_size : Int32) (i_p : Int32) (i_at : Int32) (i_token : Int32) (i_number : Int32) (i_letterMany : Int32) (i_fault : Int32) (i_faultAt : Int32) (m_letters : Nat) (i_isKnown : Int32) (m_choice : Nat) (m_row : Nat) (m_up : Nat) (m_low : Nat) (m_m : Nat) (m_bestUp : Nat) (m_bestLow : Nat) (m_replyUp : Nat) (m_replyLow : Nat) (m_worthUp : Nat) (m_worthLow : Nat) (m_bestWay : Nat) (i_seed : Int32) (m_told : Nat) (i_toldMany : Int32) (h_p0 : 0 ≤ (p0 : Int32).toInt ∧ (p0 : Int32).toInt ≤ 1) (h_i_undoMany : 0 ≤ (i_undoMany : Int32).toInt ∧ (i_undoMany : Int32).toInt ≤ 8) (h_i_length : 0 ≤ (i_length : Int32).toInt ∧ (i_length : Int32).toInt ≤ 440) (h_i_size : 0 ≤ (i_size : Int32).toInt ∧ (i_size : Int32).toInt ≤ 440) (h_i_p : 0 ≤ (i_p : Int32).toInt ∧ (i_p : Int32).toInt ≤ 440) (h_i_at : 0 ≤ (i_at : Int32).toInt ∧ (i_at : Int32).toInt ≤ 440) (h_i_token : 0 ≤ (i_token : Int32).toInt ∧ (i_token : Int32).toInt ≤ 4) (h_i_number : 0 ≤ (i_number : Int32).toInt ∧ (i_number : Int32).toInt ≤ 814) (h_i_letterMany : (-440) ≤ (i_letterMany : Int32).toInt ∧ (i_letterMany : Int32).toInt ≤ 440) (h_i_faultAt : 0 ≤ (i_faultAt : Int32).toInt ∧ (i_faultAt : Int32).toInt ≤ 440) (h_i_isKnown : 0 ≤ (i_isKnown : Int32).toInt ∧ (i_isKnown : Int32).toInt ≤ 1) (h_i_toldMany : 0 ≤ (i_toldMany : Int32).toInt ∧ (i_toldMany : Int32).toInt ≤ 900) : Met l yX12_throwsIf (.code yX12_throwsIf cX12_throwsIf 2 (some .boolean) :: wsL_law) ({ frames := 0, cells := 0, slots := 0, locals := 0 }) (va_Pc [.ref mm, .int p0] (fun U => U.heap.size = sz ∧ va_P D vwCl [(wO12 mm i_thrown m_s m_spare m_kept m_undone m_triedWay m_isKept i_undoMany m_tape i_length i_size i_p i_at i_token i_number i_letterMany i_fault i_faultAt m_letters i_isKnown m_choice m_row m_up m_low m_m m_bestUp m_bestLow m_replyUp m_replyLow m_worthUp m_worthLow m_bestWay i_seed m_told i_toldMany)] U.heap ∧ va_K D vwCl (TY g) U ∧ va_D (fun _ => True) [(wO12 mm i_thrown m_s m_spare m_kept m_undone m_triedWay m_isKept i_undoMany m_tape i_length i_size i_p i_at i_token i_number i_letterMany i_fault i_faultAt m_letters i_isKnown m_choice m_row m_up m_low m_m m_bestUp m_bestLow m_replyUp m_replyLow m_worthUp m_worthLow m_bestWay i_seed m_told i_toldMany)])) (va_Qi (fun r (_ : Unit) => (0 ≤ (r : Int32).toInt ∧ (r : Int32).toInt ≤ 1) ∧ ((r : Int32).toInt = (p0 : Int32).toInt)) (fun _ t => ∃ o_thrown : Int32, ((o_thrown : Int32).toInt = (p0 : Int32).toInt) ∧ va_P D vwCl [(wO12 mm o_thrown m_s m_spare m_kept m_undone m_triedWay m_isKept i_undoMany m_tape i_length i_size i_p i_at i_token i_number i_letterMany i_fault i_faultAt m_letters i_isKnown m_choice m_row m_up m_low m_m m_bestUp m_bestLow m_replyUp m_replyLow m_worthUp m_worthLow m_bestWay i_seed m_told i_toldMany)] t.heap ∧ va_D (va_A [(wO12 mm i_thrown m_s m_spare m_kept m_undone m_triedWay m_isKept i_undoMany m_tape i_length i_size i_p i_at i_token i_number i_letterMany i_fault i_faultAt m_letters i_isKnown m_choice m_row m_up m_low m_m m_bestUp m_bestLow m_replyUp m_replyLow m_worthUp m_worthLow m_bestWay i_seed m_told i_toldMany)] sz) [(wO12 mm o_thrown m_s m_spare m_kept m_undone m_triedWay m_isKept i_undoMany m_tape i_length i_size i_p i_at i_token i_number i_letterMany i_fault i_faultAt m_letters i_isKnown m_choice m_row m_up m_low m_m m_bestUp m_bestLow m_replyUp m_replyLow m_worthUp m_worthLow m_bestWay i_seed m_told i_toldMany)]) (va_A [(wO12 mm i_thrown m_s m_spare m_kept m_undone m_triedWay m_isKept i_undoMany m_tape i_length i_size i_p i_at i_token i_number i_letterMany i_fault i_faultAt m_letters i_isKnown m_choice m_row m_up m_low m_m m_bestUp m_bestLow m_replyUp m_replyLow m_worthUp m_worthLow m_bestWay i_seed m_told i_toldMany)] sz)) 0 0 (va_A [(wO12 mm i_thrown m_s m_spare m_kept m_undone m_triedWay m_isKept i_undoMany m_tape i_length i_size i_p i_at i_token i_number i_letterMany i_fault i_faultAt m_letters i_isKnown m_choice m_row m_up m_low m_m m_bestUp m_bestLow m_replyUp m_replyLow m_worthUp m_worthLow m_bestWay i_seed m_told i_toldMany)] sz) := by
  refine Met.ofW (cc := cX12_throwsIf) (maxL := 2) (ret := (some .boolean)) (by decide) rfl ?_
  intro p e s m args below meth c s₁ B hml hv
  obtain ⟨ha, hsz, hP, hK, hD0⟩ := hv
  have hx := B.exec
  have hb := B.bytes
  have hr := B.returns
  have hts0 := atoms_spec (ws := (.code yX12_throwsIf cX12_throwsIf 2 (some .boolean) :: wsL_law)) B.pre
  have hts : ∀ w ∈ wsL_law, w.before args s = true := fun w h => hts0 w (List.mem_cons_of_mem _ h)
  have hown : s.vm.findClass RX12 = some m.cls := findClass_of_methodNamed B.named
  have hlocks := B.notSynchronized
  subst hsz
  have hD := hD0.self (sz := s.heap.size)
  generalize hAe : va_A [(wO12 mm i_thrown m_s m_spare m_kept m_undone m_triedWay m_isKept i_undoMany m_tape i_length i_size i_p i_at i_token i_number i_letterMany i_fault i_faultAt m_letters i_isKnown m_choice m_row m_up m_low m_m m_bestUp m_bestLow m_replyUp m_replyLow m_worthUp m_worthLow m_bestWay i_seed m_told i_toldMany)] s.heap.size = A at hD ⊢
  have hA : ∀ q : Nat, s.heap.size ≤ q → A q := fun q h => by rw [← hAe]; exact Or.inr h
  have hS : va_S A s.heap s.heap [] := va_S.rf
  have hP : va_P D vwCl [(wO12 mm i_thrown m_s m_spare m_kept m_undone m_triedWay m_isKept i_undoMany m_tape i_length i_size i_p i_at i_token i_number i_letterMany i_fault i_faultAt m_letters i_isKnown m_choice m_row m_up m_low m_m m_bestUp m_bestLow m_replyUp m_replyLow m_worthUp m_worthLow m_bestWay i_seed m_told i_toldMany)] s.heap := hP
  refine W.eq (g2 := entryFrame m ([.ref mm, .int p0] : List Value).toArray 2) (by rw [ha]) ?_
  have hl := lv_entry ([.ref mm, .int p0]) (n := 2) (Nat.le_of_ble_eq_true rfl)
  rw [lg_entry_eq]
  generalize (lg_sl ([.ref mm, .int p0]) ++ List.replicate (2 - (lg_sl ([.ref mm, .int p0])).length) Slot.unset).toArray = ls at hl ⊢
  have hl : lv_has ls 2 [(0, .ref mm), (1, .int p0)] := hl
  refine lv_aload_n hx hb dX12_throwsIf_0 rfl (lv_at hl 0 rfl) ?_
  refine lv_iload_n hx hb dX12_throwsIf_1 rfl (lv_at hl 1 rfl) ?_
  refine lv_if_eq (tgt := 9) hx hb dX12_throwsIf_2 (by decide) (fun c_1 => ?_) (fun c_1 => ?_)
  · skip
    have kk_0 := tk_0
    have c_1_i : (p0 : Int32).toInt = (0 : Int32).toInt := congrArg Int32.toInt c_1
    have h_2 : 0 ≤ (p0 : Int32).toInt ∧ (p0 : Int32).toInt ≤ 0 := nr_eq_l h_p0 (⟨by decide, by decide⟩ : 0 ≤ (0 : Int32).toInt ∧ (0 : Int32).toInt ≤ 0) c_1_i (by decide) (by decide)
    refine lv_iconst (v := 0) hx hb dX12_throwsIf_9 (by decide) ?_
    refine va_put (D := D) (ci := 12) (v := .int 0) (ty := .int) (C := RX12) (T := TX12) (N := 35) hx hb hts inlX12 tyX12 tyX12_ok nmX12 hown hK hP hD hS 0 rfl rfl 0 (by decide) (hts (Cond.fieldLink RX12 1 "ChanceRingsModel" "thrown" "I") qw_0) (fun _ h9 => h9) rfl (by decide +kernel) rfl rfl (Nat.le_of_ble_eq_true rfl) dX12_throwsIf_10 (fun H locs hP hD hS => ?_)
    have hP : va_P D vwCl [(wO12 mm 0 m_s m_spare m_kept m_undone m_triedWay m_isKept i_undoMany m_tape i_length i_size i_p i_at i_token i_number i_letterMany i_fault i_faultAt m_letters i_isKnown m_choice m_row m_up m_low m_m m_bestUp m_bestLow m_replyUp m_replyLow m_worthUp m_worthLow m_bestWay i_seed m_told i_toldMany)] H := hP
    have hD : va_D A [(wO12 mm 0 m_s m_spare m_kept m_undone m_triedWay m_isKept i_undoMany m_tape i_length i_size i_p i_at i_token i_number i_letterMany i_fault i_faultAt m_letters i_isKnown m_choice m_row m_up m_low m_m m_bestUp m_bestLow m_replyUp m_replyLow m_worthUp m_worthLow m_bestWay i_seed m_told i_toldMany)] := hD
    refine lv_iload_n hx hb dX12_throwsIf_13 rfl (lv_at hl 1 rfl) ?_
    have hP9 := hP.sub (ws' := [(wO12 mm 0 m_s m_spare m_kept m_undone m_triedWay m_isKept i_undoMany m_tape i_length i_size i_p i_at i_token i_number i_letterMany i_fault i_faultAt m_letters i_isKnown m_choice m_row m_up m_low m_m m_bestUp m_bestLow m_replyUp m_replyLow m_worthUp m_worthLow m_bestWay i_seed m_told i_toldMany)]) [0] rfl
    have hD9 := hD.sub (ws' := [(wO12 mm 0 m_s m_spare m_kept m_undone m_triedWay m_isKept i_undoMany m_tape i_length i_size i_p i_at i_token i_number i_letterMany i_fault i_faultAt m_letters i_isKnown m_choice m_row m_up m_low m_m m_bestUp m_bestLow m_replyUp m_replyLow m_worthUp m_worthLow m_bestWay i_seed m_told i_toldMany)]) [0] (by decide) rfl
    exact W.zret (v := p0) hx hb hr (tr_z (tr_w h_2 (by decide) (by decide))) (fun t ht hW => ⟨⟨p0, (), rfl, ⟨(tr_w h_2 (by decide) (by decide)), rfl⟩, 0, (by have z_0 := tk_0; have z_1 := tk_1; (first | (clear h_i_undoMany h_i_length h_i_size h_i_p h_i_at h_i_token h_i_number h_i_letterMany h_i_faultAt h_i_isKnown h_i_toldMany; omega) | omega)), by rw [ht]; exact hP9, hD9⟩, hS.F ht⟩) hS.2.2 dX12_throwsIf_14
  · skip
    have kk_0 := tk_0
    have c_1_i : ¬ (p0 : Int32).toInt = (0 : Int32).toInt := (fun q => c_1 (Int32.toInt_inj.mp q))
    have h_3 : 1 ≤ (p0 : Int32).toInt ∧ (p0 : Int32).toInt ≤ 1 := nr_ne_l h_p0 (⟨by decide, by decide⟩ : 0 ≤ (0 : Int32).toInt ∧ (0 : Int32).toInt ≤ 0) c_1_i (by decide) (by decide)
    refine lv_iconst (v := 1) hx hb dX12_throwsIf_5 (by decide) ?_
    refine lv_goto (tgt := 10) hx hb dX12_throwsIf_6 (by decide) ?_
    refine va_put (D := D) (ci := 12) (v := .int 1) (ty := .int) (C := RX12) (T := TX12) (N := 35) hx hb hts inlX12 tyX12 tyX12_ok nmX12 hown hK hP hD hS 0 rfl rfl 0 (by decide) (hts (Cond.fieldLink RX12 1 "ChanceRingsModel" "thrown" "I") qw_0) (fun _ h9 => h9) rfl (by decide +kernel) rfl rfl (Nat.le_of_ble_eq_true rfl) dX12_throwsIf_10 (fun H locs hP hD hS => ?_)
    have hP : va_P D vwCl [(wO12 mm 1 m_s m_spare m_kept m_undone m_triedWay m_isKept i_undoMany m_tape i_length i_size i_p i_at i_token i_number i_letterMany i_fault i_faultAt m_letters i_isKnown m_choice m_row m_up m_low m_m m_bestUp m_bestLow m_replyUp m_replyLow m_worthUp m_worthLow m_bestWay i_seed m_told i_toldMany)] H := hP
    have hD : va_D A [(wO12 mm 1 m_s m_spare m_kept m_undone m_triedWay m_isKept i_undoMany m_tape i_length i_size i_p i_at i_token i_number i_letterMany i_fault i_faultAt m_letters i_isKnown m_choice m_row m_up m_low m_m m_bestUp m_bestLow m_replyUp m_replyLow m_worthUp m_worthLow m_bestWay i_seed m_told i_toldMany)] := hD
    refine lv_iload_n hx hb dX12_throwsIf_13 rfl (lv_at hl 1 rfl) ?_
    have hP9 := hP.sub (ws' := [(wO12 mm 1 m_s m_spare m_kept m_undone m_triedWay m_isKept i_undoMany m_tape i_length i_size i_p i_at i_token i_number i_letterMany i_fault i_faultAt m_letters i_isKnown m_choice m_row m_up m_low m_m m_bestUp m_bestLow m_replyUp m_replyLow m_worthUp m_worthLow m_bestWay i_seed m_told i_toldMany)]) [0] rfl
    have hD9 := hD.sub (ws' := [(wO12 mm 1 m_s m_spare m_kept m_undone m_triedWay m_isKept i_undoMany m_tape i_length i_size i_p i_at i_token i_number i_letterMany i_fault i_faultAt m_letters i_isKnown m_choice m_row m_up m_low m_m m_bestUp m_bestLow m_replyUp m_replyLow m_worthUp m_worthLow m_bestWay i_seed m_told i_toldMany)]) [0] (by decide) rfl
    exact W.zret (v := p0) hx hb hr (tr_z (tr_w h_3 (by decide) (by decide))) (fun t ht hW => ⟨⟨p0, (), rfl, ⟨(tr_w h_3 (by decide) (by decide)), rfl⟩, 1, (by have z_0 := tk_0; have z_1 := tk_1; (first | (clear h_i_undoMany h_i_length h_i_size h_i_p h_i_at h_i_token h_i_number h_i_letterMany h_i_faultAt h_i_isKnown h_i_toldMany; omega) | omega)), by rw [ht]; exact hP9, hD9⟩, hS.F ht⟩) hS.2.2 dX12_throwsIf_14
set_option maxHeartbeats 4000000 in
set_option maxRecDepth 100000 in
theorem c_X12_isIn (l : Launch) (D : va_G) (g : Nat → ClassId) (p0 : Int32) (p1 : Int32) (p2 : Int32) : Met l yX12_isIn (.code yX12_isIn cX12_isIn 3 (some .boolean) :: wsL_law) ({ frames := 0, cells := 0, slots := 0, locals := 0 }) (va_Pc [.int p0, .int p1, .int p2] (fun U => va_P D vwCl [] U.heap ∧ va_K D vwCl (TY g) U)) (vp_Si (fun r => (0 ≤ (r : Int32).toInt ∧ (r : Int32).toInt ≤ 1) ∧ (Hide (¬ (r : Int32).toInt = 0 → (p1 : Int32).toInt ≤ (p0 : Int32).toInt ∧ (p0 : Int32).toInt ≤ (p2 : Int32).toInt)) ∧ (Hide ((r : Int32).toInt = 0 → (p0 : Int32).toInt < (p1 : Int32).toInt ∨ (p2 : Int32).toInt < (p0 : Int32).toInt)))) 0 0 (fun _ => False) := by
  refine Met.ofW (cc := cX12_isIn) (maxL := 3) (ret := (some .boolean)) (by decide) rfl ?_
  intro p e s m args below meth c s₁ B hml hv
  obtain ⟨ha, hP, hK⟩ := hv
  have hx := B.exec
  have hb := B.bytes
  have hr := B.returns
  have hts0 := atoms_spec (ws := (.code yX12_isIn cX12_isIn 3 (some .boolean) :: wsL_law)) B.pre
  have hts : ∀ w ∈ wsL_law, w.before args s = true := fun w h => hts0 w (List.mem_cons_of_mem _ h)
  have hown : s.vm.findClass RX12 = some m.cls := findClass_of_methodNamed B.named
  have hlocks := B.notSynchronized
  have hP : va_P D vwCl [] s.heap := hP
  refine W.eq (g2 := entryFrame m ([.int p0, .int p1, .int p2] : List Value).toArray 3) (by rw [ha]) ?_
  have hl := lv_entry ([.int p0, .int p1, .int p2]) (n := 3) (Nat.le_of_ble_eq_true rfl)
  rw [lg_entry_eq]
  generalize (lg_sl ([.int p0, .int p1, .int p2]) ++ List.replicate (3 - (lg_sl ([.int p0, .int p1, .int p2])).length) Slot.unset).toArray = ls at hl ⊢
  have hl : lv_has ls 3 [(0, .int p0), (1, .int p1), (2, .int p2)] := hl
  refine lv_iload_n hx hb dX12_isIn_0 rfl (lv_at hl 0 rfl) ?_
  refine lv_iload_n hx hb dX12_isIn_1 rfl (lv_at hl 1 rfl) ?_
  refine lv_icmp_lt (tgt := 14) hx hb dX12_isIn_2 (by decide) (fun c_4 => ?_) (fun c_4 => ?_)
  · skip
    have c_4_i := Int32.lt_iff_toInt_lt.mp c_4
    refine lv_iconst (v := 0) hx hb dX12_isIn_14 (by decide) ?_
    exact W.zret (v := 0) hx hb hr (by decide) (fun t ht hW => ⟨0, rfl, ⟨(⟨by decide, by decide⟩ : 0 ≤ (0 : Int32).toInt ∧ (0 : Int32).toInt ≤ 1), (fun h9 => (by have z_0 := tk_0; have z_1 := tk_1; omega)), (fun h9 => (by have z_0 := tk_0; have z_1 := tk_1; omega))⟩, ht⟩) (fun _ h => nomatch h) dX12_isIn_15
  · skip
    have c_4_i := Int32.le_iff_toInt_le.mp (Int32.not_lt.mp c_4)
    refine lv_iload_n hx hb dX12_isIn_5 rfl (lv_at hl 0 rfl) ?_
    refine lv_iload_n hx hb dX12_isIn_6 rfl (lv_at hl 2 rfl) ?_
    refine lv_icmp_gt (tgt := 14) hx hb dX12_isIn_7 (by decide) (fun c_5 => ?_) (fun c_5 => ?_)
    · skip
      have c_5_i := Int32.lt_iff_toInt_lt.mp c_5
      refine lv_iconst (v := 0) hx hb dX12_isIn_14 (by decide) ?_
      exact W.zret (v := 0) hx hb hr (by decide) (fun t ht hW => ⟨0, rfl, ⟨(⟨by decide, by decide⟩ : 0 ≤ (0 : Int32).toInt ∧ (0 : Int32).toInt ≤ 1), (fun h9 => (by have z_0 := tk_0; have z_1 := tk_1; omega)), (fun h9 => (by have z_0 := tk_0; have z_1 := tk_1; omega))⟩, ht⟩) (fun _ h => nomatch h) dX12_isIn_15
    · skip
      have c_5_i := Int32.le_iff_toInt_le.mp (Int32.not_lt.mp c_5)
      refine lv_iconst (v := 1) hx hb dX12_isIn_10 (by decide) ?_
      refine lv_goto (tgt := 15) hx hb dX12_isIn_11 (by decide) ?_
      exact W.zret (v := 1) hx hb hr (by decide) (fun t ht hW => ⟨1, rfl, ⟨(⟨by decide, by decide⟩ : 0 ≤ (1 : Int32).toInt ∧ (1 : Int32).toInt ≤ 1), (fun h9 => (by have z_0 := tk_0; have z_1 := tk_1; omega)), (fun h9 => (by have z_0 := tk_0; have z_1 := tk_1; omega))⟩, ht⟩) (fun _ h => nomatch h) dX12_isIn_15
set_option maxHeartbeats 4000000 in
set_option maxRecDepth 100000 in
theorem c_X12_isSmall (l : Launch) (D : va_G) (g : Nat → ClassId) (p0 : Int32) : Met l yX12_isSmall (.code yX12_isSmall cX12_isSmall 1 (some .boolean) :: wsL_law) ({ frames := 1, cells := 0, slots := 0, locals := 22 }) (va_Pc [.int p0] (fun U => va_P D vwCl [] U.heap ∧ va_K D vwCl (TY g) U)) (vp_Si (fun r => (0 ≤ (r : Int32).toInt ∧ (r : Int32).toInt ≤ 1) ∧ (Hide (¬ (r : Int32).toInt = 0 → 97 ≤ (p0 : Int32).toInt ∧ (p0 : Int32).toInt ≤ 122)) ∧ (Hide ((r : Int32).toInt = 0 → (p0 : Int32).toInt < 97 ∨ 122 < (p0 : Int32).toInt)))) 0 0 (fun _ => False) := by
  refine Met.ofW (cc := cX12_isSmall) (maxL := 1) (ret := (some .boolean)) (by decide) rfl ?_
  intro p e s m args below meth c s₁ B hml hv
  obtain ⟨ha, hP, hK⟩ := hv
  have hx := B.exec
  have hb := B.bytes
  have hr := B.returns
  have hts0 := atoms_spec (ws := (.code yX12_isSmall cX12_isSmall 1 (some .boolean) :: wsL_law)) B.pre
  have hts : ∀ w ∈ wsL_law, w.before args s = true := fun w h => hts0 w (List.mem_cons_of_mem _ h)
  have hown : s.vm.findClass RX12 = some m.cls := findClass_of_methodNamed B.named
  have hlocks := B.notSynchronized
  have hP : va_P D vwCl [] s.heap := hP
  refine W.eq (g2 := entryFrame m ([.int p0] : List Value).toArray 1) (by rw [ha]) ?_
  have hl := lv_entry ([.int p0]) (n := 1) (Nat.le_of_ble_eq_true rfl)
  rw [lg_entry_eq]
  generalize (lg_sl ([.int p0]) ++ List.replicate (1 - (lg_sl ([.int p0])).length) Slot.unset).toArray = ls at hl ⊢
  have hl : lv_has ls 1 [(0, .int p0)] := hl
  refine lv_iload_n hx hb dX12_isSmall_0 rfl (lv_at hl 0 rfl) ?_
  refine lv_bipush (v := 97) hx hb dX12_isSmall_1 (by decide) ?_
  refine lv_bipush (v := 122) hx hb dX12_isSmall_3 (by decide) ?_
  have hPc := hP.sub (ws' := []) [] rfl
  refine vp_callSi (va_Run.run (va_runS (As := [.int p0, .int 97, .int 122]) (rest := []) ⟨hx, hb, hml, hown, hts⟩ (c_X12_isIn l D g p0 97 122) (va_cwS 3 hts (tz_gS qw_1 qw_2 qw_3 qw_4) rfl rfl rfl (by decide +kernel) ⟨Nat.le_of_ble_eq_true rfl, Nat.le_of_ble_eq_true rfl⟩) ⟨tz_blS, tz_preS hPc hK⟩ rfl rfl hl.1 rfl (lv_room (Nat.le_of_ble_eq_true rfl)) dX12_isSmall_5 ⟨Nat.le_of_ble_eq_true rfl, Nat.le_of_ble_eq_true rfl⟩)) (fun r_6 hw => ?_)
  have kk_97 := tk_97
  have kk_122 := tk_122
  have hw_7 : 0 ≤ (r_6 : Int32).toInt ∧ (r_6 : Int32).toInt ≤ 1 := hw.1
  have hw_7_p0 : Hide (¬ (r_6 : Int32).toInt = 0 → (97 : Int32).toInt ≤ (p0 : Int32).toInt ∧ (p0 : Int32).toInt ≤ (122 : Int32).toInt) := hw.2.1
  have hw_7_p1 : Hide ((r_6 : Int32).toInt = 0 → (p0 : Int32).toInt < (97 : Int32).toInt ∨ (122 : Int32).toInt < (p0 : Int32).toInt) := hw.2.2
  exact W.zret (v := r_6) hx hb hr (tr_z (tr_w hw_7 (by decide) (by decide))) (fun t ht hW => ⟨r_6, rfl, ⟨(tr_w hw_7 (by decide) (by decide)), (fun h9 => by have h8 := (hw_7_p0).get h9; have z1 := tk_97; have z2 := tk_122; omega), (fun h9 => by have h8 := (hw_7_p1).get h9; have z1 := tk_97; have z2 := tk_122; omega)⟩, ht⟩) (fun _ h => nomatch h) dX12_isSmall_8
set_option maxHeartbeats 4000000 in
set_option maxRecDepth 100000 in
theorem c_X12_isDigit (l : Launch) (D : va_G) (g : Nat → ClassId) (p0 : Int32) : Met l yX12_isDigit (.code yX12_isDigit cX12_isDigit 1 (some .boolean) :: wsL_law) ({ frames := 1, cells := 0, slots := 0, locals := 22 }) (va_Pc [.int p0] (fun U => va_P D vwCl [] U.heap ∧ va_K D vwCl (TY g) U)) (vp_Si (fun r => (0 ≤ (r : Int32).toInt ∧ (r : Int32).toInt ≤ 1) ∧ (Hide (¬ (r : Int32).toInt = 0 → 48 ≤ (p0 : Int32).toInt ∧ (p0 : Int32).toInt ≤ 57)) ∧ (Hide ((r : Int32).toInt = 0 → (p0 : Int32).toInt < 48 ∨ 57 < (p0 : Int32).toInt)))) 0 0 (fun _ => False) := by
  refine Met.ofW (cc := cX12_isDigit) (maxL := 1) (ret := (some .boolean)) (by decide) rfl ?_
  intro p e s m args below meth c s₁ B hml hv
  obtain ⟨ha, hP, hK⟩ := hv
  have hx := B.exec
  have hb := B.bytes
  have hr := B.returns
  have hts0 := atoms_spec (ws := (.code yX12_isDigit cX12_isDigit 1 (some .boolean) :: wsL_law)) B.pre
  have hts : ∀ w ∈ wsL_law, w.before args s = true := fun w h => hts0 w (List.mem_cons_of_mem _ h)
  have hown : s.vm.findClass RX12 = some m.cls := findClass_of_methodNamed B.named
  have hlocks := B.notSynchronized
  have hP : va_P D vwCl [] s.heap := hP
  refine W.eq (g2 := entryFrame m ([.int p0] : List Value).toArray 1) (by rw [ha]) ?_
  have hl := lv_entry ([.int p0]) (n := 1) (Nat.le_of_ble_eq_true rfl)
  rw [lg_entry_eq]
  generalize (lg_sl ([.int p0]) ++ List.replicate (1 - (lg_sl ([.int p0])).length) Slot.unset).toArray = ls at hl ⊢
  have hl : lv_has ls 1 [(0, .int p0)] := hl
  refine lv_iload_n hx hb dX12_isDigit_0 rfl (lv_at hl 0 rfl) ?_
  refine lv_bipush (v := 48) hx hb dX12_isDigit_1 (by decide) ?_
  refine lv_bipush (v := 57) hx hb dX12_isDigit_3 (by decide) ?_
  have hPc := hP.sub (ws' := []) [] rfl
  refine vp_callSi (va_Run.run (va_runS (As := [.int p0, .int 48, .int 57]) (rest := []) ⟨hx, hb, hml, hown, hts⟩ (c_X12_isIn l D g p0 48 57) (va_cwS 3 hts (tz_gS qw_1 qw_2 qw_3 qw_4) rfl rfl rfl (by decide +kernel) ⟨Nat.le_of_ble_eq_true rfl, Nat.le_of_ble_eq_true rfl⟩) ⟨tz_blS, tz_preS hPc hK⟩ rfl rfl hl.1 rfl (lv_room (Nat.le_of_ble_eq_true rfl)) dX12_isDigit_5 ⟨Nat.le_of_ble_eq_true rfl, Nat.le_of_ble_eq_true rfl⟩)) (fun r_8 hw => ?_)
  have kk_48 := tk_48
  have kk_57 := tk_57
  have hw_9 : 0 ≤ (r_8 : Int32).toInt ∧ (r_8 : Int32).toInt ≤ 1 := hw.1
  have hw_9_p0 : Hide (¬ (r_8 : Int32).toInt = 0 → (48 : Int32).toInt ≤ (p0 : Int32).toInt ∧ (p0 : Int32).toInt ≤ (57 : Int32).toInt) := hw.2.1
  have hw_9_p1 : Hide ((r_8 : Int32).toInt = 0 → (p0 : Int32).toInt < (48 : Int32).toInt ∨ (57 : Int32).toInt < (p0 : Int32).toInt) := hw.2.2
  exact W.zret (v := r_8) hx hb hr (tr_z (tr_w hw_9 (by decide) (by decide))) (fun t ht hW => ⟨r_8, rfl, ⟨(tr_w hw_9 (by decide) (by decide)), (fun h9 => by have h8 := (hw_9_p0).get h9; have z1 := tk_48; have z2 := tk_57; omega), (fun h9 => by have h8 := (hw_9_p1).get h9; have z1 := tk_48; have z2 := tk_57; omega)⟩, ht⟩) (fun _ h => nomatch h) dX12_isDigit_8
set_option maxHeartbeats 4000000 in
set_option maxRecDepth 100000 in
theorem c_X12_four (l : Launch) (D : va_G) (g : Nat → ClassId) (sz : Nat) (mm : Nat) (p0 : Int32) (i_thrown : Int32) (m_s : Nat) (m_spare : Nat) (m_kept : Nat) (m_undone : Nat) (m_triedWay : Nat) (m_isKept : Nat) (i_undoMany : Int32) (m_tape : Nat) (i_length : Int32) (i_size : Int32) (i_p : Int32) (i_at : Int32) (i_token : Int32) (i_number : Int32) (i_letterMany : Int32) (i_fault : Int32) (i_faultAt : Int32) (m_letters : Nat) (i_isKnown : Int32) (m_choice : Nat) (m_row : Nat) (m_up : Nat) (m_low : Nat) (m_m : Nat) (m_bestUp : Nat) (m_bestLow : Nat) (m_replyUp : Nat) (m_replyLow : Nat) (m_worthUp : Nat) (m_worthLow : Nat) (m_bestWay : Nat) (i_seed : Int32) (m_told : Nat) (i_toldMany : Int32) (tf : Nat → Int32) (h_i_undoMany : 0 ≤ (i_undoMany : Int32).toInt ∧ (i_undoMany : Int32).toInt ≤ 8) (h_i_length : 0 ≤ (i_length : Int32).toInt ∧ (i_length : Int32).toInt ≤ 436) (h_i_size : 0 ≤ (i_size : Int32).toInt ∧ (i_size : Int32).toInt ≤ 440) (h_i_p : 0 ≤ (i_p : Int32).toInt ∧ (i_p : Int32).toInt ≤ 440) (h_i_at : 0 ≤ (i_at : Int32).toInt ∧ (i_at : Int32).toInt ≤ 440) (h_i_token : 0 ≤ (i_token : Int32).toInt ∧ (i_token : Int32).toInt ≤ 4) (h_i_number : 0 ≤ (i_number : Int32).toInt ∧ (i_number : Int32).toInt ≤ 814) (h_i_letterMany : (-440) ≤ (i_letterMany : Int32).toInt ∧ (i_letterMany : Int32).toInt ≤ 440) (h_i_faultAt : 0 ≤ (i_faultAt : Int32).toInt ∧ (i_faultAt : Int32).toInt ≤ 440) (h_i_isKnown : 0 ≤ (i_isKnown : Int32).toInt ∧ (i_isKnown : Int32).toInt ≤ 1) (h_i_toldMany : 0 ≤ (i_toldMany : Int32).toInt ∧ (i_toldMany : Int32).toInt ≤ 900) : Met l yX12_four (.code yX12_four cX12_four 3 none :: wsL_law) ({ frames := 0, cells := 0, slots := 0, locals := 0 }) (va_Pc [.ref mm, .int p0] (fun U => U.heap.size = sz ∧ va_P D vwCl [(wO12 mm i_thrown m_s m_spare m_kept m_undone m_triedWay m_isKept i_undoMany m_tape i_length i_size i_p i_at i_token i_number i_letterMany i_fault i_faultAt m_letters i_isKnown m_choice m_row m_up m_low m_m m_bestUp m_bestLow m_replyUp m_replyLow m_worthUp m_worthLow m_bestWay i_seed m_told i_toldMany), (wI g m_tape 2 440 tf)] U.heap ∧ va_K D vwCl (TY g) U ∧ va_D (fun _ => True) [(wO12 mm i_thrown m_s m_spare m_kept m_undone m_triedWay m_isKept i_undoMany m_tape i_length i_size i_p i_at i_token i_number i_letterMany i_fault i_faultAt m_letters i_isKnown m_choice m_row m_up m_low m_m m_bestUp m_bestLow m_replyUp m_replyLow m_worthUp m_worthLow m_bestWay i_seed m_told i_toldMany), (wI g m_tape 2 440 tf)])) (va_Qv (fun (_ : Unit) => True) (fun _ t => ∃ o_length : Int32, ∃ otf : Nat → Int32, (0 ≤ (o_length : Int32).toInt ∧ (o_length : Int32).toInt ≤ 440) ∧ ((o_length : Int32).toInt = (i_length : Int32).toInt + 4) ∧ va_P D vwCl [(wO12 mm i_thrown m_s m_spare m_kept m_undone m_triedWay m_isKept i_undoMany m_tape o_length i_size i_p i_at i_token i_number i_letterMany i_fault i_faultAt m_letters i_isKnown m_choice m_row m_up m_low m_m m_bestUp m_bestLow m_replyUp m_replyLow m_worthUp m_worthLow m_bestWay i_seed m_told i_toldMany), (wI g m_tape 2 440 otf)] t.heap ∧ va_D (va_A [(wO12 mm i_thrown m_s m_spare m_kept m_undone m_triedWay m_isKept i_undoMany m_tape i_length i_size i_p i_at i_token i_number i_letterMany i_fault i_faultAt m_letters i_isKnown m_choice m_row m_up m_low m_m m_bestUp m_bestLow m_replyUp m_replyLow m_worthUp m_worthLow m_bestWay i_seed m_told i_toldMany), (wI g m_tape 2 440 tf)] sz) [(wO12 mm i_thrown m_s m_spare m_kept m_undone m_triedWay m_isKept i_undoMany m_tape o_length i_size i_p i_at i_token i_number i_letterMany i_fault i_faultAt m_letters i_isKnown m_choice m_row m_up m_low m_m m_bestUp m_bestLow m_replyUp m_replyLow m_worthUp m_worthLow m_bestWay i_seed m_told i_toldMany), (wI g m_tape 2 440 otf)]) (va_A [(wO12 mm i_thrown m_s m_spare m_kept m_undone m_triedWay m_isKept i_undoMany m_tape i_length i_size i_p i_at i_token i_number i_letterMany i_fault i_faultAt m_letters i_isKnown m_choice m_row m_up m_low m_m m_bestUp m_bestLow m_replyUp m_replyLow m_worthUp m_worthLow m_bestWay i_seed m_told i_toldMany), (wI g m_tape 2 440 tf)] sz)) 0 0 (va_A [(wO12 mm i_thrown m_s m_spare m_kept m_undone m_triedWay m_isKept i_undoMany m_tape i_length i_size i_p i_at i_token i_number i_letterMany i_fault i_faultAt m_letters i_isKnown m_choice m_row m_up m_low m_m m_bestUp m_bestLow m_replyUp m_replyLow m_worthUp m_worthLow m_bestWay i_seed m_told i_toldMany), (wI g m_tape 2 440 tf)] sz) := by
  refine Met.ofW (cc := cX12_four) (maxL := 3) (ret := none) (by decide) rfl ?_
  intro p e s m args below meth c s₁ B hml hv
  obtain ⟨ha, hsz, hP, hK, hD0⟩ := hv
  have hx := B.exec
  have hb := B.bytes
  have hr := B.returns
  have hts0 := atoms_spec (ws := (.code yX12_four cX12_four 3 none :: wsL_law)) B.pre
  have hts : ∀ w ∈ wsL_law, w.before args s = true := fun w h => hts0 w (List.mem_cons_of_mem _ h)
  have hown : s.vm.findClass RX12 = some m.cls := findClass_of_methodNamed B.named
  have hlocks := B.notSynchronized
  subst hsz
  have hD := hD0.self (sz := s.heap.size)
  generalize hAe : va_A [(wO12 mm i_thrown m_s m_spare m_kept m_undone m_triedWay m_isKept i_undoMany m_tape i_length i_size i_p i_at i_token i_number i_letterMany i_fault i_faultAt m_letters i_isKnown m_choice m_row m_up m_low m_m m_bestUp m_bestLow m_replyUp m_replyLow m_worthUp m_worthLow m_bestWay i_seed m_told i_toldMany), (wI g m_tape 2 440 tf)] s.heap.size = A at hD ⊢
  have hA : ∀ q : Nat, s.heap.size ≤ q → A q := fun q h => by rw [← hAe]; exact Or.inr h
  have hS : va_S A s.heap s.heap [] := va_S.rf
  have hP : va_P D vwCl [(wO12 mm i_thrown m_s m_spare m_kept m_undone m_triedWay m_isKept i_undoMany m_tape i_length i_size i_p i_at i_token i_number i_letterMany i_fault i_faultAt m_letters i_isKnown m_choice m_row m_up m_low m_m m_bestUp m_bestLow m_replyUp m_replyLow m_worthUp m_worthLow m_bestWay i_seed m_told i_toldMany), (wI g m_tape 2 440 tf)] s.heap := hP
  refine W.eq (g2 := entryFrame m ([.ref mm, .int p0] : List Value).toArray 3) (by rw [ha]) ?_
  have hl := lv_entry ([.ref mm, .int p0]) (n := 3) (Nat.le_of_ble_eq_true rfl)
  rw [lg_entry_eq]
  generalize (lg_sl ([.ref mm, .int p0]) ++ List.replicate (3 - (lg_sl ([.ref mm, .int p0])).length) Slot.unset).toArray = ls at hl ⊢
  have hl : lv_has ls 3 [(0, .ref mm), (1, .int p0)] := hl
  refine lv_bipush (v := 24) hx hb dX12_four_0 (by decide) ?_
  refine lv_istore_n (lv' := [(2, .int 24), (0, .ref mm), (1, .int p0)]) hx hb dX12_four_2 rfl hl (by decide) rfl (fun ls hl => ?_)
  refine lv_iload_n hx hb dX12_four_3 rfl (lv_at hl 0 rfl) ?_
  refine lv_if_lt (tgt := 36) hx hb dX12_four_4 (by decide) (fun h9 => absurd h9 (by decide)) (fun _ => ?_)
  refine lv_aload_n hx hb dX12_four_7 rfl (lv_at hl 1 rfl) ?_
  refine va_get (D := D) (ci := 12) (v := .ref m_tape) (C := RX12) (T := TX12) (N := 35) hx hb hts inlX12 hown hK hP 0 rfl rfl 8 (by decide) (hts (Cond.fieldLink RX12 33 "ChanceRingsModel" "tape" "[B") qw_5) (fun _ h9 => h9) rfl dX12_four_8 ?_
  refine lv_aload_n hx hb dX12_four_11 rfl (lv_at hl 1 rfl) ?_
  refine va_get (D := D) (ci := 12) (v := .int i_length) (C := RX12) (T := TX12) (N := 35) hx hb hts inlX12 hown hK hP 0 rfl rfl 9 (by decide) (hts (Cond.fieldLink RX12 82 "ChanceRingsModel" "length" "I") qw_6) (fun _ h9 => h9) rfl dX12_four_12 ?_
  refine lv_iload_n hx hb dX12_four_15 rfl (lv_at hl 2 rfl) ?_
  refine lv_iload_n hx hb dX12_four_16 rfl (lv_at hl 0 rfl) ?_
  refine lv_ishr hx hb dX12_four_17 ?_
  refine lv_topi (fun v_10 v_10_e => ?_)
  refine lv_i2b (v := (v_10).toInt8.toInt32) hx hb dX12_four_18 rfl ?_
  refine va_bast hx hb hK hP hD hS 1 2 rfl rfl (tr_in h_i_length (by decide) (by decide)) dX12_four_19 (fun H locs hP hD hS => ?_)
  obtain ⟨f_11, hP, hD⟩ : ∃ FX : Nat → Int32, va_P D vwCl [(wO12 mm i_thrown m_s m_spare m_kept m_undone m_triedWay m_isKept i_undoMany m_tape i_length i_size i_p i_at i_token i_number i_letterMany i_fault i_faultAt m_letters i_isKnown m_choice m_row m_up m_low m_m m_bestUp m_bestLow m_replyUp m_replyLow m_worthUp m_worthLow m_bestWay i_seed m_told i_toldMany), (wI g m_tape 2 440 FX)] H ∧ va_D A [(wO12 mm i_thrown m_s m_spare m_kept m_undone m_triedWay m_isKept i_undoMany m_tape i_length i_size i_p i_at i_token i_number i_letterMany i_fault i_faultAt m_letters i_isKnown m_choice m_row m_up m_low m_m m_bestUp m_bestLow m_replyUp m_replyLow m_worthUp m_worthLow m_bestWay i_seed m_told i_toldMany), (wI g m_tape 2 440 FX)] := ⟨_, hP, hD⟩
  have hP : va_P D vwCl [(wO12 mm i_thrown m_s m_spare m_kept m_undone m_triedWay m_isKept i_undoMany m_tape i_length i_size i_p i_at i_token i_number i_letterMany i_fault i_faultAt m_letters i_isKnown m_choice m_row m_up m_low m_m m_bestUp m_bestLow m_replyUp m_replyLow m_worthUp m_worthLow m_bestWay i_seed m_told i_toldMany), (wI g m_tape 2 440 f_11)] H := hP
  have hD : va_D A [(wO12 mm i_thrown m_s m_spare m_kept m_undone m_triedWay m_isKept i_undoMany m_tape i_length i_size i_p i_at i_token i_number i_letterMany i_fault i_faultAt m_letters i_isKnown m_choice m_row m_up m_low m_m m_bestUp m_bestLow m_replyUp m_replyLow m_worthUp m_worthLow m_bestWay i_seed m_told i_toldMany), (wI g m_tape 2 440 f_11)] := hD
  refine lv_aload_n hx hb dX12_four_20 rfl (lv_at hl 1 rfl) ?_
  refine lv_dup hx hb dX12_four_21 rfl ?_
  refine va_get (D := D) (ci := 12) (v := .int i_length) (C := RX12) (T := TX12) (N := 35) hx hb hts inlX12 hown hK hP 0 rfl rfl 9 (by decide) (hts (Cond.fieldLink RX12 82 "ChanceRingsModel" "length" "I") qw_6) (fun _ h9 => h9) rfl dX12_four_22 ?_
  refine lv_iconst (v := 1) hx hb dX12_four_25 (by decide) ?_
  refine lv_iadd hx hb dX12_four_26 ?_
  refine lv_topi (fun v_12 v_12_e => ?_)
  have h_v_12 : 1 ≤ (v_12 : Int32).toInt ∧ (v_12 : Int32).toInt ≤ 437 := by rw [v_12_e]; exact tr_add h_i_length (⟨by decide, by decide⟩ : 1 ≤ (1 : Int32).toInt ∧ (1 : Int32).toInt ≤ 1) (by decide) (by decide) (by decide) (by decide)
  have q_v_12 : v_12.toInt = i_length.toInt + 1 := by rw [v_12_e]; exact tr_addE h_i_length (⟨by decide, by decide⟩ : 1 ≤ (1 : Int32).toInt ∧ (1 : Int32).toInt ≤ 1) (by decide) (by decide)
  refine va_put (D := D) (ci := 12) (v := .int v_12) (ty := .int) (C := RX12) (T := TX12) (N := 35) hx hb hts inlX12 tyX12 tyX12_ok nmX12 hown hK hP hD hS 0 rfl rfl 9 (by decide) (hts (Cond.fieldLink RX12 82 "ChanceRingsModel" "length" "I") qw_6) (fun _ h9 => h9) rfl (by decide +kernel) rfl rfl (Nat.le_of_ble_eq_true rfl) dX12_four_27 (fun H locs hP hD hS => ?_)
  have hP : va_P D vwCl [(wO12 mm i_thrown m_s m_spare m_kept m_undone m_triedWay m_isKept i_undoMany m_tape v_12 i_size i_p i_at i_token i_number i_letterMany i_fault i_faultAt m_letters i_isKnown m_choice m_row m_up m_low m_m m_bestUp m_bestLow m_replyUp m_replyLow m_worthUp m_worthLow m_bestWay i_seed m_told i_toldMany), (wI g m_tape 2 440 f_11)] H := hP
  have hD : va_D A [(wO12 mm i_thrown m_s m_spare m_kept m_undone m_triedWay m_isKept i_undoMany m_tape v_12 i_size i_p i_at i_token i_number i_letterMany i_fault i_faultAt m_letters i_isKnown m_choice m_row m_up m_low m_m m_bestUp m_bestLow m_replyUp m_replyLow m_worthUp m_worthLow m_bestWay i_seed m_told i_toldMany), (wI g m_tape 2 440 f_11)] := hD
  refine lv_iinc (v := 16) (lv' := [(2, .int 16), (0, .ref mm), (1, .int p0)]) hx hb dX12_four_30 hl (k := 0) rfl (by decide) (by decide) rfl (fun ls hl => ?_)
  refine lv_goto (tgt := 3) hx hb dX12_four_33 (by decide) ?_
  refine lv_iload_n hx hb dX12_four_3 rfl (lv_at hl 0 rfl) ?_
  refine lv_if_lt (tgt := 36) hx hb dX12_four_4 (by decide) (fun h9 => absurd h9 (by decide)) (fun _ => ?_)
  refine lv_aload_n hx hb dX12_four_7 rfl (lv_at hl 1 rfl) ?_
  refine va_get (D := D) (ci := 12) (v := .ref m_tape) (C := RX12) (T := TX12) (N := 35) hx hb hts inlX12 hown hK hP 0 rfl rfl 8 (by decide) (hts (Cond.fieldLink RX12 33 "ChanceRingsModel" "tape" "[B") qw_5) (fun _ h9 => h9) rfl dX12_four_8 ?_
  refine lv_aload_n hx hb dX12_four_11 rfl (lv_at hl 1 rfl) ?_
  refine va_get (D := D) (ci := 12) (v := .int v_12) (C := RX12) (T := TX12) (N := 35) hx hb hts inlX12 hown hK hP 0 rfl rfl 9 (by decide) (hts (Cond.fieldLink RX12 82 "ChanceRingsModel" "length" "I") qw_6) (fun _ h9 => h9) rfl dX12_four_12 ?_
  refine lv_iload_n hx hb dX12_four_15 rfl (lv_at hl 2 rfl) ?_
  refine lv_iload_n hx hb dX12_four_16 rfl (lv_at hl 0 rfl) ?_
  refine lv_ishr hx hb dX12_four_17 ?_
  refine lv_topi (fun v_13 v_13_e => ?_)
  refine lv_i2b (v := (v_13).toInt8.toInt32) hx hb dX12_four_18 rfl ?_
  refine va_bast hx hb hK hP hD hS 1 2 rfl rfl (tr_in h_v_12 (by decide) (by decide)) dX12_four_19 (fun H locs hP hD hS => ?_)
  obtain ⟨f_14, hP, hD⟩ : ∃ FX : Nat → Int32, va_P D vwCl [(wO12 mm i_thrown m_s m_spare m_kept m_undone m_triedWay m_isKept i_undoMany m_tape v_12 i_size i_p i_at i_token i_number i_letterMany i_fault i_faultAt m_letters i_isKnown m_choice m_row m_up m_low m_m m_bestUp m_bestLow m_replyUp m_replyLow m_worthUp m_worthLow m_bestWay i_seed m_told i_toldMany), (wI g m_tape 2 440 FX)] H ∧ va_D A [(wO12 mm i_thrown m_s m_spare m_kept m_undone m_triedWay m_isKept i_undoMany m_tape v_12 i_size i_p i_at i_token i_number i_letterMany i_fault i_faultAt m_letters i_isKnown m_choice m_row m_up m_low m_m m_bestUp m_bestLow m_replyUp m_replyLow m_worthUp m_worthLow m_bestWay i_seed m_told i_toldMany), (wI g m_tape 2 440 FX)] := ⟨_, hP, hD⟩
  have hP : va_P D vwCl [(wO12 mm i_thrown m_s m_spare m_kept m_undone m_triedWay m_isKept i_undoMany m_tape v_12 i_size i_p i_at i_token i_number i_letterMany i_fault i_faultAt m_letters i_isKnown m_choice m_row m_up m_low m_m m_bestUp m_bestLow m_replyUp m_replyLow m_worthUp m_worthLow m_bestWay i_seed m_told i_toldMany), (wI g m_tape 2 440 f_14)] H := hP
  have hD : va_D A [(wO12 mm i_thrown m_s m_spare m_kept m_undone m_triedWay m_isKept i_undoMany m_tape v_12 i_size i_p i_at i_token i_number i_letterMany i_fault i_faultAt m_letters i_isKnown m_choice m_row m_up m_low m_m m_bestUp m_bestLow m_replyUp m_replyLow m_worthUp m_worthLow m_bestWay i_seed m_told i_toldMany), (wI g m_tape 2 440 f_14)] := hD
  refine lv_aload_n hx hb dX12_four_20 rfl (lv_at hl 1 rfl) ?_
  refine lv_dup hx hb dX12_four_21 rfl ?_
  refine va_get (D := D) (ci := 12) (v := .int v_12) (C := RX12) (T := TX12) (N := 35) hx hb hts inlX12 hown hK hP 0 rfl rfl 9 (by decide) (hts (Cond.fieldLink RX12 82 "ChanceRingsModel" "length" "I") qw_6) (fun _ h9 => h9) rfl dX12_four_22 ?_
  refine lv_iconst (v := 1) hx hb dX12_four_25 (by decide) ?_
  refine lv_iadd hx hb dX12_four_26 ?_
  refine lv_topi (fun v_15 v_15_e => ?_)
  have h_v_15 : 2 ≤ (v_15 : Int32).toInt ∧ (v_15 : Int32).toInt ≤ 438 := by rw [v_15_e]; exact tr_add h_v_12 (⟨by decide, by decide⟩ : 1 ≤ (1 : Int32).toInt ∧ (1 : Int32).toInt ≤ 1) (by decide) (by decide) (by decide) (by decide)
  have q_v_15 : v_15.toInt = v_12.toInt + 1 := by rw [v_15_e]; exact tr_addE h_v_12 (⟨by decide, by decide⟩ : 1 ≤ (1 : Int32).toInt ∧ (1 : Int32).toInt ≤ 1) (by decide) (by decide)
  refine va_put (D := D) (ci := 12) (v := .int v_15) (ty := .int) (C := RX12) (T := TX12) (N := 35) hx hb hts inlX12 tyX12 tyX12_ok nmX12 hown hK hP hD hS 0 rfl rfl 9 (by decide) (hts (Cond.fieldLink RX12 82 "ChanceRingsModel" "length" "I") qw_6) (fun _ h9 => h9) rfl (by decide +kernel) rfl rfl (Nat.le_of_ble_eq_true rfl) dX12_four_27 (fun H locs hP hD hS => ?_)
  have hP : va_P D vwCl [(wO12 mm i_thrown m_s m_spare m_kept m_undone m_triedWay m_isKept i_undoMany m_tape v_15 i_size i_p i_at i_token i_number i_letterMany i_fault i_faultAt m_letters i_isKnown m_choice m_row m_up m_low m_m m_bestUp m_bestLow m_replyUp m_replyLow m_worthUp m_worthLow m_bestWay i_seed m_told i_toldMany), (wI g m_tape 2 440 f_14)] H := hP
  have hD : va_D A [(wO12 mm i_thrown m_s m_spare m_kept m_undone m_triedWay m_isKept i_undoMany m_tape v_15 i_size i_p i_at i_token i_number i_letterMany i_fault i_faultAt m_letters i_isKnown m_choice m_row m_up m_low m_m m_bestUp m_bestLow m_replyUp m_replyLow m_worthUp m_worthLow m_bestWay i_seed m_told i_toldMany), (wI g m_tape 2 440 f_14)] := hD
  refine lv_iinc (v := 8) (lv' := [(2, .int 8), (0, .ref mm), (1, .int p0)]) hx hb dX12_four_30 hl (k := 0) rfl (by decide) (by decide) rfl (fun ls hl => ?_)
  refine lv_goto (tgt := 3) hx hb dX12_four_33 (by decide) ?_
  refine lv_iload_n hx hb dX12_four_3 rfl (lv_at hl 0 rfl) ?_
  refine lv_if_lt (tgt := 36) hx hb dX12_four_4 (by decide) (fun h9 => absurd h9 (by decide)) (fun _ => ?_)
  refine lv_aload_n hx hb dX12_four_7 rfl (lv_at hl 1 rfl) ?_
  refine va_get (D := D) (ci := 12) (v := .ref m_tape) (C := RX12) (T := TX12) (N := 35) hx hb hts inlX12 hown hK hP 0 rfl rfl 8 (by decide) (hts (Cond.fieldLink RX12 33 "ChanceRingsModel" "tape" "[B") qw_5) (fun _ h9 => h9) rfl dX12_four_8 ?_
  refine lv_aload_n hx hb dX12_four_11 rfl (lv_at hl 1 rfl) ?_
  refine va_get (D := D) (ci := 12) (v := .int v_15) (C := RX12) (T := TX12) (N := 35) hx hb hts inlX12 hown hK hP 0 rfl rfl 9 (by decide) (hts (Cond.fieldLink RX12 82 "ChanceRingsModel" "length" "I") qw_6) (fun _ h9 => h9) rfl dX12_four_12 ?_
  refine lv_iload_n hx hb dX12_four_15 rfl (lv_at hl 2 rfl) ?_
  refine lv_iload_n hx hb dX12_four_16 rfl (lv_at hl 0 rfl) ?_
  refine lv_ishr hx hb dX12_four_17 ?_
  refine lv_topi (fun v_16 v_16_e => ?_)
  refine lv_i2b (v := (v_16).toInt8.toInt32) hx hb dX12_four_18 rfl ?_
  refine va_bast hx hb hK hP hD hS 1 2 rfl rfl (tr_in h_v_15 (by decide) (by decide)) dX12_four_19 (fun H locs hP hD hS => ?_)
  obtain ⟨f_17, hP, hD⟩ : ∃ FX : Nat → Int32, va_P D vwCl [(wO12 mm i_thrown m_s m_spare m_kept m_undone m_triedWay m_isKept i_undoMany m_tape v_15 i_size i_p i_at i_token i_number i_letterMany i_fault i_faultAt m_letters i_isKnown m_choice m_row m_up m_low m_m m_bestUp m_bestLow m_replyUp m_replyLow m_worthUp m_worthLow m_bestWay i_seed m_told i_toldMany), (wI g m_tape 2 440 FX)] H ∧ va_D A [(wO12 mm i_thrown m_s m_spare m_kept m_undone m_triedWay m_isKept i_undoMany m_tape v_15 i_size i_p i_at i_token i_number i_letterMany i_fault i_faultAt m_letters i_isKnown m_choice m_row m_up m_low m_m m_bestUp m_bestLow m_replyUp m_replyLow m_worthUp m_worthLow m_bestWay i_seed m_told i_toldMany), (wI g m_tape 2 440 FX)] := ⟨_, hP, hD⟩
  have hP : va_P D vwCl [(wO12 mm i_thrown m_s m_spare m_kept m_undone m_triedWay m_isKept i_undoMany m_tape v_15 i_size i_p i_at i_token i_number i_letterMany i_fault i_faultAt m_letters i_isKnown m_choice m_row m_up m_low m_m m_bestUp m_bestLow m_replyUp m_replyLow m_worthUp m_worthLow m_bestWay i_seed m_told i_toldMany), (wI g m_tape 2 440 f_17)] H := hP
  have hD : va_D A [(wO12 mm i_thrown m_s m_spare m_kept m_undone m_triedWay m_isKept i_undoMany m_tape v_15 i_size i_p i_at i_token i_number i_letterMany i_fault i_faultAt m_letters i_isKnown m_choice m_row m_up m_low m_m m_bestUp m_bestLow m_replyUp m_replyLow m_worthUp m_worthLow m_bestWay i_seed m_told i_toldMany), (wI g m_tape 2 440 f_17)] := hD
  refine lv_aload_n hx hb dX12_four_20 rfl (lv_at hl 1 rfl) ?_
  refine lv_dup hx hb dX12_four_21 rfl ?_
  refine va_get (D := D) (ci := 12) (v := .int v_15) (C := RX12) (T := TX12) (N := 35) hx hb hts inlX12 hown hK hP 0 rfl rfl 9 (by decide) (hts (Cond.fieldLink RX12 82 "ChanceRingsModel" "length" "I") qw_6) (fun _ h9 => h9) rfl dX12_four_22 ?_
  refine lv_iconst (v := 1) hx hb dX12_four_25 (by decide) ?_
  refine lv_iadd hx hb dX12_four_26 ?_
  refine lv_topi (fun v_18 v_18_e => ?_)
  have h_v_18 : 3 ≤ (v_18 : Int32).toInt ∧ (v_18 : Int32).toInt ≤ 439 := by rw [v_18_e]; exact tr_add h_v_15 (⟨by decide, by decide⟩ : 1 ≤ (1 : Int32).toInt ∧ (1 : Int32).toInt ≤ 1) (by decide) (by decide) (by decide) (by decide)
  have q_v_18 : v_18.toInt = v_15.toInt + 1 := by rw [v_18_e]; exact tr_addE h_v_15 (⟨by decide, by decide⟩ : 1 ≤ (1 : Int32).toInt ∧ (1 : Int32).toInt ≤ 1) (by decide) (by decide)
  refine va_put (D := D) (ci := 12) (v := .int v_18) (ty := .int) (C := RX12) (T := TX12) (N := 35) hx hb hts inlX12 tyX12 tyX12_ok nmX12 hown hK hP hD hS 0 rfl rfl 9 (by decide) (hts (Cond.fieldLink RX12 82 "ChanceRingsModel" "length" "I") qw_6) (fun _ h9 => h9) rfl (by decide +kernel) rfl rfl (Nat.le_of_ble_eq_true rfl) dX12_four_27 (fun H locs hP hD hS => ?_)
  have hP : va_P D vwCl [(wO12 mm i_thrown m_s m_spare m_kept m_undone m_triedWay m_isKept i_undoMany m_tape v_18 i_size i_p i_at i_token i_number i_letterMany i_fault i_faultAt m_letters i_isKnown m_choice m_row m_up m_low m_m m_bestUp m_bestLow m_replyUp m_replyLow m_worthUp m_worthLow m_bestWay i_seed m_told i_toldMany), (wI g m_tape 2 440 f_17)] H := hP
  have hD : va_D A [(wO12 mm i_thrown m_s m_spare m_kept m_undone m_triedWay m_isKept i_undoMany m_tape v_18 i_size i_p i_at i_token i_number i_letterMany i_fault i_faultAt m_letters i_isKnown m_choice m_row m_up m_low m_m m_bestUp m_bestLow m_replyUp m_replyLow m_worthUp m_worthLow m_bestWay i_seed m_told i_toldMany), (wI g m_tape 2 440 f_17)] := hD
  refine lv_iinc (v := 0) (lv' := [(2, .int 0), (0, .ref mm), (1, .int p0)]) hx hb dX12_four_30 hl (k := 0) rfl (by decide) (by decide) rfl (fun ls hl => ?_)
  refine lv_goto (tgt := 3) hx hb dX12_four_33 (by decide) ?_
  refine lv_iload_n hx hb dX12_four_3 rfl (lv_at hl 0 rfl) ?_
  refine lv_if_lt (tgt := 36) hx hb dX12_four_4 (by decide) (fun h9 => absurd h9 (by decide)) (fun _ => ?_)
  refine lv_aload_n hx hb dX12_four_7 rfl (lv_at hl 1 rfl) ?_
  refine va_get (D := D) (ci := 12) (v := .ref m_tape) (C := RX12) (T := TX12) (N := 35) hx hb hts inlX12 hown hK hP 0 rfl rfl 8 (by decide) (hts (Cond.fieldLink RX12 33 "ChanceRingsModel" "tape" "[B") qw_5) (fun _ h9 => h9) rfl dX12_four_8 ?_
  refine lv_aload_n hx hb dX12_four_11 rfl (lv_at hl 1 rfl) ?_
  refine va_get (D := D) (ci := 12) (v := .int v_18) (C := RX12) (T := TX12) (N := 35) hx hb hts inlX12 hown hK hP 0 rfl rfl 9 (by decide) (hts (Cond.fieldLink RX12 82 "ChanceRingsModel" "length" "I") qw_6) (fun _ h9 => h9) rfl dX12_four_12 ?_
  refine lv_iload_n hx hb dX12_four_15 rfl (lv_at hl 2 rfl) ?_
  refine lv_iload_n hx hb dX12_four_16 rfl (lv_at hl 0 rfl) ?_
  refine lv_ishr hx hb dX12_four_17 ?_
  refine lv_topi (fun v_19 v_19_e => ?_)
  refine lv_i2b (v := (v_19).toInt8.toInt32) hx hb dX12_four_18 rfl ?_
  refine va_bast hx hb hK hP hD hS 1 2 rfl rfl (tr_in h_v_18 (by decide) (by decide)) dX12_four_19 (fun H locs hP hD hS => ?_)
  obtain ⟨f_20, hP, hD⟩ : ∃ FX : Nat → Int32, va_P D vwCl [(wO12 mm i_thrown m_s m_spare m_kept m_undone m_triedWay m_isKept i_undoMany m_tape v_18 i_size i_p i_at i_token i_number i_letterMany i_fault i_faultAt m_letters i_isKnown m_choice m_row m_up m_low m_m m_bestUp m_bestLow m_replyUp m_replyLow m_worthUp m_worthLow m_bestWay i_seed m_told i_toldMany), (wI g m_tape 2 440 FX)] H ∧ va_D A [(wO12 mm i_thrown m_s m_spare m_kept m_undone m_triedWay m_isKept i_undoMany m_tape v_18 i_size i_p i_at i_token i_number i_letterMany i_fault i_faultAt m_letters i_isKnown m_choice m_row m_up m_low m_m m_bestUp m_bestLow m_replyUp m_replyLow m_worthUp m_worthLow m_bestWay i_seed m_told i_toldMany), (wI g m_tape 2 440 FX)] := ⟨_, hP, hD⟩
  have hP : va_P D vwCl [(wO12 mm i_thrown m_s m_spare m_kept m_undone m_triedWay m_isKept i_undoMany m_tape v_18 i_size i_p i_at i_token i_number i_letterMany i_fault i_faultAt m_letters i_isKnown m_choice m_row m_up m_low m_m m_bestUp m_bestLow m_replyUp m_replyLow m_worthUp m_worthLow m_bestWay i_seed m_told i_toldMany), (wI g m_tape 2 440 f_20)] H := hP
  have hD : va_D A [(wO12 mm i_thrown m_s m_spare m_kept m_undone m_triedWay m_isKept i_undoMany m_tape v_18 i_size i_p i_at i_token i_number i_letterMany i_fault i_faultAt m_letters i_isKnown m_choice m_row m_up m_low m_m m_bestUp m_bestLow m_replyUp m_replyLow m_worthUp m_worthLow m_bestWay i_seed m_told i_toldMany), (wI g m_tape 2 440 f_20)] := hD
  refine lv_aload_n hx hb dX12_four_20 rfl (lv_at hl 1 rfl) ?_
  refine lv_dup hx hb dX12_four_21 rfl ?_
  refine va_get (D := D) (ci := 12) (v := .int v_18) (C := RX12) (T := TX12) (N := 35) hx hb hts inlX12 hown hK hP 0 rfl rfl 9 (by decide) (hts (Cond.fieldLink RX12 82 "ChanceRingsModel" "length" "I") qw_6) (fun _ h9 => h9) rfl dX12_four_22 ?_
  refine lv_iconst (v := 1) hx hb dX12_four_25 (by decide) ?_
  refine lv_iadd hx hb dX12_four_26 ?_
  refine lv_topi (fun v_21 v_21_e => ?_)
  have h_v_21 : 4 ≤ (v_21 : Int32).toInt ∧ (v_21 : Int32).toInt ≤ 440 := by rw [v_21_e]; exact tr_add h_v_18 (⟨by decide, by decide⟩ : 1 ≤ (1 : Int32).toInt ∧ (1 : Int32).toInt ≤ 1) (by decide) (by decide) (by decide) (by decide)
  have q_v_21 : v_21.toInt = v_18.toInt + 1 := by rw [v_21_e]; exact tr_addE h_v_18 (⟨by decide, by decide⟩ : 1 ≤ (1 : Int32).toInt ∧ (1 : Int32).toInt ≤ 1) (by decide) (by decide)
  refine va_put (D := D) (ci := 12) (v := .int v_21) (ty := .int) (C := RX12) (T := TX12) (N := 35) hx hb hts inlX12 tyX12 tyX12_ok nmX12 hown hK hP hD hS 0 rfl rfl 9 (by decide) (hts (Cond.fieldLink RX12 82 "ChanceRingsModel" "length" "I") qw_6) (fun _ h9 => h9) rfl (by decide +kernel) rfl rfl (Nat.le_of_ble_eq_true rfl) dX12_four_27 (fun H locs hP hD hS => ?_)
  have hP : va_P D vwCl [(wO12 mm i_thrown m_s m_spare m_kept m_undone m_triedWay m_isKept i_undoMany m_tape v_21 i_size i_p i_at i_token i_number i_letterMany i_fault i_faultAt m_letters i_isKnown m_choice m_row m_up m_low m_m m_bestUp m_bestLow m_replyUp m_replyLow m_worthUp m_worthLow m_bestWay i_seed m_told i_toldMany), (wI g m_tape 2 440 f_20)] H := hP
  have hD : va_D A [(wO12 mm i_thrown m_s m_spare m_kept m_undone m_triedWay m_isKept i_undoMany m_tape v_21 i_size i_p i_at i_token i_number i_letterMany i_fault i_faultAt m_letters i_isKnown m_choice m_row m_up m_low m_m m_bestUp m_bestLow m_replyUp m_replyLow m_worthUp m_worthLow m_bestWay i_seed m_told i_toldMany), (wI g m_tape 2 440 f_20)] := hD
  refine lv_iinc (v := (-8)) (lv' := [(2, .int (-8)), (0, .ref mm), (1, .int p0)]) hx hb dX12_four_30 hl (k := 0) rfl (by decide) (by decide) rfl (fun ls hl => ?_)
  refine lv_goto (tgt := 3) hx hb dX12_four_33 (by decide) ?_
  refine lv_iload_n hx hb dX12_four_3 rfl (lv_at hl 0 rfl) ?_
  refine lv_if_lt (tgt := 36) hx hb dX12_four_4 (by decide) (fun _ => ?_) (fun h9 => (h9 (by decide)).elim)
  have hP9 := hP.sub (ws' := [(wO12 mm i_thrown m_s m_spare m_kept m_undone m_triedWay m_isKept i_undoMany m_tape v_21 i_size i_p i_at i_token i_number i_letterMany i_fault i_faultAt m_letters i_isKnown m_choice m_row m_up m_low m_m m_bestUp m_bestLow m_replyUp m_replyLow m_worthUp m_worthLow m_bestWay i_seed m_told i_toldMany), (wI g m_tape 2 440 f_20)]) [0, 1] rfl
  have hD9 := hD.sub (ws' := [(wO12 mm i_thrown m_s m_spare m_kept m_undone m_triedWay m_isKept i_undoMany m_tape v_21 i_size i_p i_at i_token i_number i_letterMany i_fault i_faultAt m_letters i_isKnown m_choice m_row m_up m_low m_m m_bestUp m_bestLow m_replyUp m_replyLow m_worthUp m_worthLow m_bestWay i_seed m_told i_toldMany), (wI g m_tape 2 440 f_20)]) [0, 1] (by decide) rfl
  exact W.vret hx hb hr (fun t ht hW => ⟨⟨(), rfl, trivial, v_21, f_20, (tr_w h_v_21 (by decide) (by decide)), (by have z_0 := tk_0; have z_1 := tk_1; (first | (clear h_i_undoMany h_i_length h_i_size h_i_p h_i_at h_i_token h_i_number h_i_letterMany h_i_faultAt h_i_isKnown h_i_toldMany h_v_12 q_v_12; omega) | omega)), by rw [ht]; exact hP9, hD9⟩, hS.F ht⟩) hS.2.2 dX12_four_36
set_option maxHeartbeats 4000000 in
set_option maxRecDepth 100000 in
theorem c_X12_feed (l : Launch) (D : va_G) (g : Nat → ClassId) (sz : Nat) (mm : Nat) (p0 : Int32) (p1 : Int32) (p2 : Int32) (p3 : Int32) (p4 : Int32) (i_thrown : Int32) (m_s : Nat) (m_spare : Nat) (m_kept : Nat) (m_undone : Nat) (m_triedWay : Nat) (m_isKept : Nat) (i_undoMany : Int32) (m_tape : Nat) (i_length : Int32) (i_size : Int32) (i_p : Int32) (i_at : Int32) (i_token : Int32) (i_number : Int32) (i_letterMany : Int32) (i_fault : Int32) (i_faultAt : Int32) (m_letters : Nat) (i_isKnown : Int32) (m_choice : Nat) (m_row : Nat) (m_up : Nat) (m_low : Nat) (m_m : Nat) (m_bestUp : Nat) (m_bestLow : Nat) (m_replyUp : Nat) (m_replyLow : Nat) (m_worthUp : Nat) (m_worthLow : Nat) (m_bestWay : Nat) (i_seed : Int32) (m_told : Nat) (i_toldMany : Int32) (tf : Nat → Int32) (h_i_undoMany : 0 ≤ (i_undoMany : Int32).toInt ∧ (i_undoMany : Int32).toInt ≤ 8) (h_i_length : 0 ≤ (i_length : Int32).toInt ∧ (i_length : Int32).toInt ≤ 440) (h_i_size : 0 ≤ (i_size : Int32).toInt ∧ (i_size : Int32).toInt ≤ 440) (h_i_p : 0 ≤ (i_p : Int32).toInt ∧ (i_p : Int32).toInt ≤ 440) (h_i_at : 0 ≤ (i_at : Int32).toInt ∧ (i_at : Int32).toInt ≤ 440) (h_i_token : 0 ≤ (i_token : Int32).toInt ∧ (i_token : Int32).toInt ≤ 4) (h_i_number : 0 ≤ (i_number : Int32).toInt ∧ (i_number : Int32).toInt ≤ 814) (h_i_letterMany : (-440) ≤ (i_letterMany : Int32).toInt ∧ (i_letterMany : Int32).toInt ≤ 440) (h_i_faultAt : 0 ≤ (i_faultAt : Int32).toInt ∧ (i_faultAt : Int32).toInt ≤ 440) (h_i_isKnown : 0 ≤ (i_isKnown : Int32).toInt ∧ (i_isKnown : Int32).toInt ≤ 1) (h_i_toldMany : 0 ≤ (i_toldMany : Int32).toInt ∧ (i_toldMany : Int32).toInt ≤ 900) : Met l yX12_feed (.code yX12_feed cX12_feed 6 (some .int) :: wsL_law) ({ frames := 1, cells := 0, slots := 0, locals := 22 }) (va_Pc [.ref mm, .int p0, .int p1, .int p2, .int p3, .int p4] (fun U => U.heap.size = sz ∧ va_P D vwCl [(wO12 mm i_thrown m_s m_spare m_kept m_undone m_triedWay m_isKept i_undoMany m_tape i_length i_size i_p i_at i_token i_number i_letterMany i_fault i_faultAt m_letters i_isKnown m_choice m_row m_up m_low m_m m_bestUp m_bestLow m_replyUp m_replyLow m_worthUp m_worthLow m_bestWay i_seed m_told i_toldMany), (wI g m_tape 2 440 tf)] U.heap ∧ va_K D vwCl (TY g) U ∧ va_D (fun _ => True) [(wO12 mm i_thrown m_s m_spare m_kept m_undone m_triedWay m_isKept i_undoMany m_tape i_length i_size i_p i_at i_token i_number i_letterMany i_fault i_faultAt m_letters i_isKnown m_choice m_row m_up m_low m_m m_bestUp m_bestLow m_replyUp m_replyLow m_worthUp m_worthLow m_bestWay i_seed m_told i_toldMany), (wI g m_tape 2 440 tf)])) (va_Qi (fun r (_ : Unit) => ((-1) ≤ (r : Int32).toInt ∧ (r : Int32).toInt ≤ 440) ∧ (((i_length : Int32).toInt ≤ 420 → (r : Int32).toInt = (i_length : Int32).toInt + 20) ∧ (420 < (i_length : Int32).toInt → (r : Int32).toInt = -1))) (fun _ t => ∃ o_thrown : Int32, ∃ o_length : Int32, ∃ otf : Nat → Int32, (0 ≤ (o_length : Int32).toInt ∧ (o_length : Int32).toInt ≤ 440) ∧ (((i_length : Int32).toInt ≤ 420 → (o_length : Int32).toInt = (i_length : Int32).toInt + 20) ∧ (420 < (i_length : Int32).toInt → (o_length : Int32).toInt = (i_length : Int32).toInt)) ∧ va_P D vwCl [(wO12 mm o_thrown m_s m_spare m_kept m_undone m_triedWay m_isKept i_undoMany m_tape o_length i_size i_p i_at i_token i_number i_letterMany i_fault i_faultAt m_letters i_isKnown m_choice m_row m_up m_low m_m m_bestUp m_bestLow m_replyUp m_replyLow m_worthUp m_worthLow m_bestWay i_seed m_told i_toldMany), (wI g m_tape 2 440 otf)] t.heap ∧ va_D (va_A [(wO12 mm i_thrown m_s m_spare m_kept m_undone m_triedWay m_isKept i_undoMany m_tape i_length i_size i_p i_at i_token i_number i_letterMany i_fault i_faultAt m_letters i_isKnown m_choice m_row m_up m_low m_m m_bestUp m_bestLow m_replyUp m_replyLow m_worthUp m_worthLow m_bestWay i_seed m_told i_toldMany), (wI g m_tape 2 440 tf)] sz) [(wO12 mm o_thrown m_s m_spare m_kept m_undone m_triedWay m_isKept i_undoMany m_tape o_length i_size i_p i_at i_token i_number i_letterMany i_fault i_faultAt m_letters i_isKnown m_choice m_row m_up m_low m_m m_bestUp m_bestLow m_replyUp m_replyLow m_worthUp m_worthLow m_bestWay i_seed m_told i_toldMany), (wI g m_tape 2 440 otf)]) (va_A [(wO12 mm i_thrown m_s m_spare m_kept m_undone m_triedWay m_isKept i_undoMany m_tape i_length i_size i_p i_at i_token i_number i_letterMany i_fault i_faultAt m_letters i_isKnown m_choice m_row m_up m_low m_m m_bestUp m_bestLow m_replyUp m_replyLow m_worthUp m_worthLow m_bestWay i_seed m_told i_toldMany), (wI g m_tape 2 440 tf)] sz)) 0 0 (va_A [(wO12 mm i_thrown m_s m_spare m_kept m_undone m_triedWay m_isKept i_undoMany m_tape i_length i_size i_p i_at i_token i_number i_letterMany i_fault i_faultAt m_letters i_isKnown m_choice m_row m_up m_low m_m m_bestUp m_bestLow m_replyUp m_replyLow m_worthUp m_worthLow m_bestWay i_seed m_told i_toldMany), (wI g m_tape 2 440 tf)] sz) := by
  refine Met.ofW (cc := cX12_feed) (maxL := 6) (ret := (some .int)) (by decide) rfl ?_
  intro p e s m args below meth c s₁ B hml hv
  obtain ⟨ha, hsz, hP, hK, hD0⟩ := hv
  have hx := B.exec
  have hb := B.bytes
  have hr := B.returns
  have hts0 := atoms_spec (ws := (.code yX12_feed cX12_feed 6 (some .int) :: wsL_law)) B.pre
  have hts : ∀ w ∈ wsL_law, w.before args s = true := fun w h => hts0 w (List.mem_cons_of_mem _ h)
  have hown : s.vm.findClass RX12 = some m.cls := findClass_of_methodNamed B.named
  have hlocks := B.notSynchronized
  subst hsz
  have hD := hD0.self (sz := s.heap.size)
  generalize hAe : va_A [(wO12 mm i_thrown m_s m_spare m_kept m_undone m_triedWay m_isKept i_undoMany m_tape i_length i_size i_p i_at i_token i_number i_letterMany i_fault i_faultAt m_letters i_isKnown m_choice m_row m_up m_low m_m m_bestUp m_bestLow m_replyUp m_replyLow m_worthUp m_worthLow m_bestWay i_seed m_told i_toldMany), (wI g m_tape 2 440 tf)] s.heap.size = A at hD ⊢
  have hA : ∀ q : Nat, s.heap.size ≤ q → A q := fun q h => by rw [← hAe]; exact Or.inr h
  have hS : va_S A s.heap s.heap [] := va_S.rf
  have hP : va_P D vwCl [(wO12 mm i_thrown m_s m_spare m_kept m_undone m_triedWay m_isKept i_undoMany m_tape i_length i_size i_p i_at i_token i_number i_letterMany i_fault i_faultAt m_letters i_isKnown m_choice m_row m_up m_low m_m m_bestUp m_bestLow m_replyUp m_replyLow m_worthUp m_worthLow m_bestWay i_seed m_told i_toldMany), (wI g m_tape 2 440 tf)] s.heap := hP
  refine W.eq (g2 := entryFrame m ([.ref mm, .int p0, .int p1, .int p2, .int p3, .int p4] : List Value).toArray 6) (by rw [ha]) ?_
  have hl := lv_entry ([.ref mm, .int p0, .int p1, .int p2, .int p3, .int p4]) (n := 6) (Nat.le_of_ble_eq_true rfl)
  rw [lg_entry_eq]
  generalize (lg_sl ([.ref mm, .int p0, .int p1, .int p2, .int p3, .int p4]) ++ List.replicate (6 - (lg_sl ([.ref mm, .int p0, .int p1, .int p2, .int p3, .int p4])).length) Slot.unset).toArray = ls at hl ⊢
  have hl : lv_has ls 6 [(0, .ref mm), (1, .int p0), (2, .int p1), (3, .int p2), (4, .int p3), (5, .int p4)] := hl
  refine lv_aload_n hx hb dX12_feed_0 rfl (lv_at hl 0 rfl) ?_
  refine lv_iconst (v := 0) hx hb dX12_feed_1 (by decide) ?_
  refine va_put (D := D) (ci := 12) (v := .int 0) (ty := .int) (C := RX12) (T := TX12) (N := 35) hx hb hts inlX12 tyX12 tyX12_ok nmX12 hown hK hP hD hS 0 rfl rfl 0 (by decide) (hts (Cond.fieldLink RX12 1 "ChanceRingsModel" "thrown" "I") qw_0) (fun _ h9 => h9) rfl (by decide +kernel) rfl rfl (Nat.le_of_ble_eq_true rfl) dX12_feed_2 (fun H locs hP hD hS => ?_)
  have hP : va_P D vwCl [(wO12 mm 0 m_s m_spare m_kept m_undone m_triedWay m_isKept i_undoMany m_tape i_length i_size i_p i_at i_token i_number i_letterMany i_fault i_faultAt m_letters i_isKnown m_choice m_row m_up m_low m_m m_bestUp m_bestLow m_replyUp m_replyLow m_worthUp m_worthLow m_bestWay i_seed m_told i_toldMany), (wI g m_tape 2 440 tf)] H := hP
  have hD : va_D A [(wO12 mm 0 m_s m_spare m_kept m_undone m_triedWay m_isKept i_undoMany m_tape i_length i_size i_p i_at i_token i_number i_letterMany i_fault i_faultAt m_letters i_isKnown m_choice m_row m_up m_low m_m m_bestUp m_bestLow m_replyUp m_replyLow m_worthUp m_worthLow m_bestWay i_seed m_told i_toldMany), (wI g m_tape 2 440 tf)] := hD
  refine lv_aload_n hx hb dX12_feed_5 rfl (lv_at hl 0 rfl) ?_
  refine va_get (D := D) (ci := 12) (v := .int i_length) (C := RX12) (T := TX12) (N := 35) hx hb hts inlX12 hown hK hP 0 rfl rfl 9 (by decide) (hts (Cond.fieldLink RX12 82 "ChanceRingsModel" "length" "I") qw_6) (fun _ h9 => h9) rfl dX12_feed_6 ?_
  refine lv_bipush (v := 20) hx hb dX12_feed_9 (by decide) ?_
  refine lv_iadd hx hb dX12_feed_11 ?_
  refine lv_topi (fun v_22 v_22_e => ?_)
  have h_v_22 : 20 ≤ (v_22 : Int32).toInt ∧ (v_22 : Int32).toInt ≤ 460 := by rw [v_22_e]; exact tr_add h_i_length (⟨by decide, by decide⟩ : 20 ≤ (20 : Int32).toInt ∧ (20 : Int32).toInt ≤ 20) (by decide) (by decide) (by decide) (by decide)
  have q_v_22 : v_22.toInt = i_length.toInt + 20 := by rw [v_22_e]; exact tr_addE h_i_length (⟨by decide, by decide⟩ : 20 ≤ (20 : Int32).toInt ∧ (20 : Int32).toInt ≤ 20) (by decide) (by decide)
  refine lv_sipush (v := 440) hx hb dX12_feed_12 (by decide) ?_
  refine lv_icmp_le (tgt := 20) hx hb dX12_feed_15 (by decide) (fun c_23 => ?_) (fun c_23 => ?_)
  · skip
    have kk_440 := tk_440
    have c_23_i := Int32.le_iff_toInt_le.mp c_23
    have h_24 : 20 ≤ (v_22 : Int32).toInt ∧ (v_22 : Int32).toInt ≤ 440 := nr_le_l h_v_22 (⟨by decide, by decide⟩ : 440 ≤ (440 : Int32).toInt ∧ (440 : Int32).toInt ≤ 440) c_23_i (by decide) (by decide)
    refine lv_aload_n hx hb dX12_feed_20 rfl (lv_at hl 0 rfl) ?_
    refine lv_iload_n hx hb dX12_feed_21 rfl (lv_at hl 1 rfl) ?_
    have h_26 : 0 ≤ (i_length : Int32).toInt ∧ (i_length : Int32).toInt ≤ 436 := by (first | (clear h_i_undoMany h_i_size h_i_p h_i_at h_i_token h_i_number h_i_letterMany h_i_faultAt h_i_isKnown h_i_toldMany; omega) | omega)
    have hPc := hP.sub (ws' := [(wO12 mm 0 m_s m_spare m_kept m_undone m_triedWay m_isKept i_undoMany m_tape i_length i_size i_p i_at i_token i_number i_letterMany i_fault i_faultAt m_letters i_isKnown m_choice m_row m_up m_low m_m m_bestUp m_bestLow m_replyUp m_replyLow m_worthUp m_worthLow m_bestWay i_seed m_told i_toldMany), (wI g m_tape 2 440 tf)]) [0, 1] rfl
    have hDc := hD.sub (ws' := [(wO12 mm 0 m_s m_spare m_kept m_undone m_triedWay m_isKept i_undoMany m_tape i_length i_size i_p i_at i_token i_number i_letterMany i_fault i_faultAt m_letters i_isKnown m_choice m_row m_up m_low m_m m_bestUp m_bestLow m_replyUp m_replyLow m_worthUp m_worthLow m_bestWay i_seed m_told i_toldMany), (wI g m_tape 2 440 tf)]) [0, 1] (by decide) rfl
    have hFc := va_free (wc := [(wO12 mm 0 m_s m_spare m_kept m_undone m_triedWay m_isKept i_undoMany m_tape i_length i_size i_p i_at i_token i_number i_letterMany i_fault i_faultAt m_letters i_isKnown m_choice m_row m_up m_low m_m m_bestUp m_bestLow m_replyUp m_replyLow m_worthUp m_worthLow m_bestWay i_seed m_told i_toldMany), (wI g m_tape 2 440 tf)]) hD hS hA [0, 1] rfl
    refine va_callv (va_runV (As := [.int p0]) (rest := []) ⟨hx, hb, hml, hown, hts⟩ (c_X12_four l D g H.size mm p0 0 m_s m_spare m_kept m_undone m_triedWay m_isKept i_undoMany m_tape i_length i_size i_p i_at i_token i_number i_letterMany i_fault i_faultAt m_letters i_isKnown m_choice m_row m_up m_low m_m m_bestUp m_bestLow m_replyUp m_replyLow m_worthUp m_worthLow m_bestWay i_seed m_told i_toldMany tf (tr_w h_i_undoMany (by decide) (by decide)) (tr_w h_26 (by decide) (by decide)) (tr_w h_i_size (by decide) (by decide)) (tr_w h_i_p (by decide) (by decide)) (tr_w h_i_at (by decide) (by decide)) (tr_w h_i_token (by decide) (by decide)) (tr_w h_i_number (by decide) (by decide)) (tr_w h_i_letterMany (by decide) (by decide)) (tr_w h_i_faultAt (by decide) (by decide)) (tr_w h_i_isKnown (by decide) (by decide)) (tr_w h_i_toldMany (by decide) (by decide))) (cwV 1 hts (tz_gV qw_7 qw_8 qw_9 qw_3 qw_10) rfl rfl rfl (by decide +kernel) ⟨Nat.le_of_ble_eq_true rfl, Nat.le_of_ble_eq_true rfl⟩) ⟨tz_blQ, va_recv hK hPc (ci := 12) (q0 := 0) rfl rfl, tz_preQ hPc hK hDc⟩ rfl rfl hl.1 rfl (lv_room (Nat.le_of_ble_eq_true rfl)) dX12_feed_22 ⟨Nat.le_of_ble_eq_true rfl, Nat.le_of_ble_eq_true rfl⟩) hS (fun q _ h => hFc q h) hFc (fun u t H1 locs ht hvm hw hB hz1 hk1 hS => ?_)
    obtain ⟨o_length_28, otf_29, hf_30, hf_31, hP1, hD1⟩ := hB
    rw [ht] at hP1
    obtain ⟨hP, hD⟩ := va_join (wr := []) (w1 := [(wO12 mm 0 m_s m_spare m_kept m_undone m_triedWay m_isKept i_undoMany m_tape o_length_28 i_size i_p i_at i_token i_number i_letterMany i_fault i_faultAt m_letters i_isKnown m_choice m_row m_up m_low m_m m_bestUp m_bestLow m_replyUp m_replyLow m_worthUp m_worthLow m_bestWay i_seed m_told i_toldMany), (wI g m_tape 2 440 otf_29)]) hP hD [0, 1] [] rfl rfl (by decide) (by decide) hk1 hFc hP1 hD1
    generalize H1 = H at hP hS ⊢
    have hP : va_P D vwCl [(wO12 mm 0 m_s m_spare m_kept m_undone m_triedWay m_isKept i_undoMany m_tape o_length_28 i_size i_p i_at i_token i_number i_letterMany i_fault i_faultAt m_letters i_isKnown m_choice m_row m_up m_low m_m m_bestUp m_bestLow m_replyUp m_replyLow m_worthUp m_worthLow m_bestWay i_seed m_told i_toldMany), (wI g m_tape 2 440 otf_29)] H := hP
    have hD : va_D A [(wO12 mm 0 m_s m_spare m_kept m_undone m_triedWay m_isKept i_undoMany m_tape o_length_28 i_size i_p i_at i_token i_number i_letterMany i_fault i_faultAt m_letters i_isKnown m_choice m_row m_up m_low m_m m_bestUp m_bestLow m_replyUp m_replyLow m_worthUp m_worthLow m_bestWay i_seed m_told i_toldMany), (wI g m_tape 2 440 otf_29)] := hD
    refine lv_aload_n hx hb dX12_feed_25 rfl (lv_at hl 0 rfl) ?_
    refine lv_iload_n hx hb dX12_feed_26 rfl (lv_at hl 2 rfl) ?_
    have h_32 : 0 ≤ (o_length_28 : Int32).toInt ∧ (o_length_28 : Int32).toInt ≤ 436 := by (first | (clear h_i_undoMany h_i_length h_i_size h_i_p h_i_at h_i_token h_i_number h_i_letterMany h_i_faultAt h_i_isKnown h_i_toldMany h_v_22 q_v_22 c_23_i h_24 h_26; omega) | omega)
    have hPc := hP.sub (ws' := [(wO12 mm 0 m_s m_spare m_kept m_undone m_triedWay m_isKept i_undoMany m_tape o_length_28 i_size i_p i_at i_token i_number i_letterMany i_fault i_faultAt m_letters i_isKnown m_choice m_row m_up m_low m_m m_bestUp m_bestLow m_replyUp m_replyLow m_worthUp m_worthLow m_bestWay i_seed m_told i_toldMany), (wI g m_tape 2 440 otf_29)]) [0, 1] rfl
    have hDc := hD.sub (ws' := [(wO12 mm 0 m_s m_spare m_kept m_undone m_triedWay m_isKept i_undoMany m_tape o_length_28 i_size i_p i_at i_token i_number i_letterMany i_fault i_faultAt m_letters i_isKnown m_choice m_row m_up m_low m_m m_bestUp m_bestLow m_replyUp m_replyLow m_worthUp m_worthLow m_bestWay i_seed m_told i_toldMany), (wI g m_tape 2 440 otf_29)]) [0, 1] (by decide) rfl
    have hFc := va_free (wc := [(wO12 mm 0 m_s m_spare m_kept m_undone m_triedWay m_isKept i_undoMany m_tape o_length_28 i_size i_p i_at i_token i_number i_letterMany i_fault i_faultAt m_letters i_isKnown m_choice m_row m_up m_low m_m m_bestUp m_bestLow m_replyUp m_replyLow m_worthUp m_worthLow m_bestWay i_seed m_told i_toldMany), (wI g m_tape 2 440 otf_29)]) hD hS hA [0, 1] rfl
    refine va_callv (va_runV (As := [.int p1]) (rest := []) ⟨hx, hb, hml, hown, hts⟩ (c_X12_four l D g H.size mm p1 0 m_s m_spare m_kept m_undone m_triedWay m_isKept i_undoMany m_tape o_length_28 i_size i_p i_at i_token i_number i_letterMany i_fault i_faultAt m_letters i_isKnown m_choice m_row m_up m_low m_m m_bestUp m_bestLow m_replyUp m_replyLow m_worthUp m_worthLow m_bestWay i_seed m_told i_toldMany otf_29 (tr_w h_i_undoMany (by decide) (by decide)) (tr_w h_32 (by decide) (by decide)) (tr_w h_i_size (by decide) (by decide)) (tr_w h_i_p (by decide) (by decide)) (tr_w h_i_at (by decide) (by decide)) (tr_w h_i_token (by decide) (by decide)) (tr_w h_i_number (by decide) (by decide)) (tr_w h_i_letterMany (by decide) (by decide)) (tr_w h_i_faultAt (by decide) (by decide)) (tr_w h_i_isKnown (by decide) (by decide)) (tr_w h_i_toldMany (by decide) (by decide))) (cwV 1 hts (tz_gV qw_7 qw_8 qw_9 qw_3 qw_10) rfl rfl rfl (by decide +kernel) ⟨Nat.le_of_ble_eq_true rfl, Nat.le_of_ble_eq_true rfl⟩) ⟨tz_blQ, va_recv hK hPc (ci := 12) (q0 := 0) rfl rfl, tz_preQ hPc hK hDc⟩ rfl rfl hl.1 rfl (lv_room (Nat.le_of_ble_eq_true rfl)) dX12_feed_27 ⟨Nat.le_of_ble_eq_true rfl, Nat.le_of_ble_eq_true rfl⟩) hS (fun q _ h => hFc q h) hFc (fun u t H1 locs ht hvm hw hB hz1 hk1 hS => ?_)
    obtain ⟨o_length_34, otf_35, hf_36, hf_37, hP1, hD1⟩ := hB
    rw [ht] at hP1
    obtain ⟨hP, hD⟩ := va_join (wr := []) (w1 := [(wO12 mm 0 m_s m_spare m_kept m_undone m_triedWay m_isKept i_undoMany m_tape o_length_34 i_size i_p i_at i_token i_number i_letterMany i_fault i_faultAt m_letters i_isKnown m_choice m_row m_up m_low m_m m_bestUp m_bestLow m_replyUp m_replyLow m_worthUp m_worthLow m_bestWay i_seed m_told i_toldMany), (wI g m_tape 2 440 otf_35)]) hP hD [0, 1] [] rfl rfl (by decide) (by decide) hk1 hFc hP1 hD1
    generalize H1 = H at hP hS ⊢
    have hP : va_P D vwCl [(wO12 mm 0 m_s m_spare m_kept m_undone m_triedWay m_isKept i_undoMany m_tape o_length_34 i_size i_p i_at i_token i_number i_letterMany i_fault i_faultAt m_letters i_isKnown m_choice m_row m_up m_low m_m m_bestUp m_bestLow m_replyUp m_replyLow m_worthUp m_worthLow m_bestWay i_seed m_told i_toldMany), (wI g m_tape 2 440 otf_35)] H := hP
    have hD : va_D A [(wO12 mm 0 m_s m_spare m_kept m_undone m_triedWay m_isKept i_undoMany m_tape o_length_34 i_size i_p i_at i_token i_number i_letterMany i_fault i_faultAt m_letters i_isKnown m_choice m_row m_up m_low m_m m_bestUp m_bestLow m_replyUp m_replyLow m_worthUp m_worthLow m_bestWay i_seed m_told i_toldMany), (wI g m_tape 2 440 otf_35)] := hD
    refine lv_aload_n hx hb dX12_feed_30 rfl (lv_at hl 0 rfl) ?_
    refine lv_iload_n hx hb dX12_feed_31 rfl (lv_at hl 3 rfl) ?_
    have h_38 : 0 ≤ (o_length_34 : Int32).toInt ∧ (o_length_34 : Int32).toInt ≤ 436 := by (first | (clear h_i_undoMany h_i_length h_i_size h_i_p h_i_at h_i_token h_i_number h_i_letterMany h_i_faultAt h_i_isKnown h_i_toldMany h_v_22 q_v_22 c_23_i h_24 h_26 h_32; omega) | omega)
    have hPc := hP.sub (ws' := [(wO12 mm 0 m_s m_spare m_kept m_undone m_triedWay m_isKept i_undoMany m_tape o_length_34 i_size i_p i_at i_token i_number i_letterMany i_fault i_faultAt m_letters i_isKnown m_choice m_row m_up m_low m_m m_bestUp m_bestLow m_replyUp m_replyLow m_worthUp m_worthLow m_bestWay i_seed m_told i_toldMany), (wI g m_tape 2 440 otf_35)]) [0, 1] rfl
    have hDc := hD.sub (ws' := [(wO12 mm 0 m_s m_spare m_kept m_undone m_triedWay m_isKept i_undoMany m_tape o_length_34 i_size i_p i_at i_token i_number i_letterMany i_fault i_faultAt m_letters i_isKnown m_choice m_row m_up m_low m_m m_bestUp m_bestLow m_replyUp m_replyLow m_worthUp m_worthLow m_bestWay i_seed m_told i_toldMany), (wI g m_tape 2 440 otf_35)]) [0, 1] (by decide) rfl
    have hFc := va_free (wc := [(wO12 mm 0 m_s m_spare m_kept m_undone m_triedWay m_isKept i_undoMany m_tape o_length_34 i_size i_p i_at i_token i_number i_letterMany i_fault i_faultAt m_letters i_isKnown m_choice m_row m_up m_low m_m m_bestUp m_bestLow m_replyUp m_replyLow m_worthUp m_worthLow m_bestWay i_seed m_told i_toldMany), (wI g m_tape 2 440 otf_35)]) hD hS hA [0, 1] rfl
    refine va_callv (va_runV (As := [.int p2]) (rest := []) ⟨hx, hb, hml, hown, hts⟩ (c_X12_four l D g H.size mm p2 0 m_s m_spare m_kept m_undone m_triedWay m_isKept i_undoMany m_tape o_length_34 i_size i_p i_at i_token i_number i_letterMany i_fault i_faultAt m_letters i_isKnown m_choice m_row m_up m_low m_m m_bestUp m_bestLow m_replyUp m_replyLow m_worthUp m_worthLow m_bestWay i_seed m_told i_toldMany otf_35 (tr_w h_i_undoMany (by decide) (by decide)) (tr_w h_38 (by decide) (by decide)) (tr_w h_i_size (by decide) (by decide)) (tr_w h_i_p (by decide) (by decide)) (tr_w h_i_at (by decide) (by decide)) (tr_w h_i_token (by decide) (by decide)) (tr_w h_i_number (by decide) (by decide)) (tr_w h_i_letterMany (by decide) (by decide)) (tr_w h_i_faultAt (by decide) (by decide)) (tr_w h_i_isKnown (by decide) (by decide)) (tr_w h_i_toldMany (by decide) (by decide))) (cwV 1 hts (tz_gV qw_7 qw_8 qw_9 qw_3 qw_10) rfl rfl rfl (by decide +kernel) ⟨Nat.le_of_ble_eq_true rfl, Nat.le_of_ble_eq_true rfl⟩) ⟨tz_blQ, va_recv hK hPc (ci := 12) (q0 := 0) rfl rfl, tz_preQ hPc hK hDc⟩ rfl rfl hl.1 rfl (lv_room (Nat.le_of_ble_eq_true rfl)) dX12_feed_32 ⟨Nat.le_of_ble_eq_true rfl, Nat.le_of_ble_eq_true rfl⟩) hS (fun q _ h => hFc q h) hFc (fun u t H1 locs ht hvm hw hB hz1 hk1 hS => ?_)
    obtain ⟨o_length_40, otf_41, hf_42, hf_43, hP1, hD1⟩ := hB
    rw [ht] at hP1
    obtain ⟨hP, hD⟩ := va_join (wr := []) (w1 := [(wO12 mm 0 m_s m_spare m_kept m_undone m_triedWay m_isKept i_undoMany m_tape o_length_40 i_size i_p i_at i_token i_number i_letterMany i_fault i_faultAt m_letters i_isKnown m_choice m_row m_up m_low m_m m_bestUp m_bestLow m_replyUp m_replyLow m_worthUp m_worthLow m_bestWay i_seed m_told i_toldMany), (wI g m_tape 2 440 otf_41)]) hP hD [0, 1] [] rfl rfl (by decide) (by decide) hk1 hFc hP1 hD1
    generalize H1 = H at hP hS ⊢
    have hP : va_P D vwCl [(wO12 mm 0 m_s m_spare m_kept m_undone m_triedWay m_isKept i_undoMany m_tape o_length_40 i_size i_p i_at i_token i_number i_letterMany i_fault i_faultAt m_letters i_isKnown m_choice m_row m_up m_low m_m m_bestUp m_bestLow m_replyUp m_replyLow m_worthUp m_worthLow m_bestWay i_seed m_told i_toldMany), (wI g m_tape 2 440 otf_41)] H := hP
    have hD : va_D A [(wO12 mm 0 m_s m_spare m_kept m_undone m_triedWay m_isKept i_undoMany m_tape o_length_40 i_size i_p i_at i_token i_number i_letterMany i_fault i_faultAt m_letters i_isKnown m_choice m_row m_up m_low m_m m_bestUp m_bestLow m_replyUp m_replyLow m_worthUp m_worthLow m_bestWay i_seed m_told i_toldMany), (wI g m_tape 2 440 otf_41)] := hD
    refine lv_aload_n hx hb dX12_feed_35 rfl (lv_at hl 0 rfl) ?_
    refine lv_iload hx hb dX12_feed_36 (lv_at hl 4 rfl) ?_
    have h_44 : 0 ≤ (o_length_40 : Int32).toInt ∧ (o_length_40 : Int32).toInt ≤ 436 := by (first | (clear h_i_undoMany h_i_length h_i_size h_i_p h_i_at h_i_token h_i_number h_i_letterMany h_i_faultAt h_i_isKnown h_i_toldMany h_v_22 q_v_22 c_23_i h_24 h_26 h_32 h_38; omega) | omega)
    have hPc := hP.sub (ws' := [(wO12 mm 0 m_s m_spare m_kept m_undone m_triedWay m_isKept i_undoMany m_tape o_length_40 i_size i_p i_at i_token i_number i_letterMany i_fault i_faultAt m_letters i_isKnown m_choice m_row m_up m_low m_m m_bestUp m_bestLow m_replyUp m_replyLow m_worthUp m_worthLow m_bestWay i_seed m_told i_toldMany), (wI g m_tape 2 440 otf_41)]) [0, 1] rfl
    have hDc := hD.sub (ws' := [(wO12 mm 0 m_s m_spare m_kept m_undone m_triedWay m_isKept i_undoMany m_tape o_length_40 i_size i_p i_at i_token i_number i_letterMany i_fault i_faultAt m_letters i_isKnown m_choice m_row m_up m_low m_m m_bestUp m_bestLow m_replyUp m_replyLow m_worthUp m_worthLow m_bestWay i_seed m_told i_toldMany), (wI g m_tape 2 440 otf_41)]) [0, 1] (by decide) rfl
    have hFc := va_free (wc := [(wO12 mm 0 m_s m_spare m_kept m_undone m_triedWay m_isKept i_undoMany m_tape o_length_40 i_size i_p i_at i_token i_number i_letterMany i_fault i_faultAt m_letters i_isKnown m_choice m_row m_up m_low m_m m_bestUp m_bestLow m_replyUp m_replyLow m_worthUp m_worthLow m_bestWay i_seed m_told i_toldMany), (wI g m_tape 2 440 otf_41)]) hD hS hA [0, 1] rfl
    refine va_callv (va_runV (As := [.int p3]) (rest := []) ⟨hx, hb, hml, hown, hts⟩ (c_X12_four l D g H.size mm p3 0 m_s m_spare m_kept m_undone m_triedWay m_isKept i_undoMany m_tape o_length_40 i_size i_p i_at i_token i_number i_letterMany i_fault i_faultAt m_letters i_isKnown m_choice m_row m_up m_low m_m m_bestUp m_bestLow m_replyUp m_replyLow m_worthUp m_worthLow m_bestWay i_seed m_told i_toldMany otf_41 (tr_w h_i_undoMany (by decide) (by decide)) (tr_w h_44 (by decide) (by decide)) (tr_w h_i_size (by decide) (by decide)) (tr_w h_i_p (by decide) (by decide)) (tr_w h_i_at (by decide) (by decide)) (tr_w h_i_token (by decide) (by decide)) (tr_w h_i_number (by decide) (by decide)) (tr_w h_i_letterMany (by decide) (by decide)) (tr_w h_i_faultAt (by decide) (by decide)) (tr_w h_i_isKnown (by decide) (by decide)) (tr_w h_i_toldMany (by decide) (by decide))) (cwV 1 hts (tz_gV qw_7 qw_8 qw_9 qw_3 qw_10) rfl rfl rfl (by decide +kernel) ⟨Nat.le_of_ble_eq_true rfl, Nat.le_of_ble_eq_true rfl⟩) ⟨tz_blQ, va_recv hK hPc (ci := 12) (q0 := 0) rfl rfl, tz_preQ hPc hK hDc⟩ rfl rfl hl.1 rfl (lv_room (Nat.le_of_ble_eq_true rfl)) dX12_feed_38 ⟨Nat.le_of_ble_eq_true rfl, Nat.le_of_ble_eq_true rfl⟩) hS (fun q _ h => hFc q h) hFc (fun u t H1 locs ht hvm hw hB hz1 hk1 hS => ?_)
    obtain ⟨o_length_46, otf_47, hf_48, hf_49, hP1, hD1⟩ := hB
    rw [ht] at hP1
    obtain ⟨hP, hD⟩ := va_join (wr := []) (w1 := [(wO12 mm 0 m_s m_spare m_kept m_undone m_triedWay m_isKept i_undoMany m_tape o_length_46 i_size i_p i_at i_token i_number i_letterMany i_fault i_faultAt m_letters i_isKnown m_choice m_row m_up m_low m_m m_bestUp m_bestLow m_replyUp m_replyLow m_worthUp m_worthLow m_bestWay i_seed m_told i_toldMany), (wI g m_tape 2 440 otf_47)]) hP hD [0, 1] [] rfl rfl (by decide) (by decide) hk1 hFc hP1 hD1
    generalize H1 = H at hP hS ⊢
    have hP : va_P D vwCl [(wO12 mm 0 m_s m_spare m_kept m_undone m_triedWay m_isKept i_undoMany m_tape o_length_46 i_size i_p i_at i_token i_number i_letterMany i_fault i_faultAt m_letters i_isKnown m_choice m_row m_up m_low m_m m_bestUp m_bestLow m_replyUp m_replyLow m_worthUp m_worthLow m_bestWay i_seed m_told i_toldMany), (wI g m_tape 2 440 otf_47)] H := hP
    have hD : va_D A [(wO12 mm 0 m_s m_spare m_kept m_undone m_triedWay m_isKept i_undoMany m_tape o_length_46 i_size i_p i_at i_token i_number i_letterMany i_fault i_faultAt m_letters i_isKnown m_choice m_row m_up m_low m_m m_bestUp m_bestLow m_replyUp m_replyLow m_worthUp m_worthLow m_bestWay i_seed m_told i_toldMany), (wI g m_tape 2 440 otf_47)] := hD
    refine lv_aload_n hx hb dX12_feed_41 rfl (lv_at hl 0 rfl) ?_
    refine lv_iload hx hb dX12_feed_42 (lv_at hl 5 rfl) ?_
    have h_50 : 0 ≤ (o_length_46 : Int32).toInt ∧ (o_length_46 : Int32).toInt ≤ 436 := by (first | (clear h_i_undoMany h_i_length h_i_size h_i_p h_i_at h_i_token h_i_number h_i_letterMany h_i_faultAt h_i_isKnown h_i_toldMany h_v_22 q_v_22 c_23_i h_24 h_26 h_32 h_38 h_44; omega) | omega)
    have hPc := hP.sub (ws' := [(wO12 mm 0 m_s m_spare m_kept m_undone m_triedWay m_isKept i_undoMany m_tape o_length_46 i_size i_p i_at i_token i_number i_letterMany i_fault i_faultAt m_letters i_isKnown m_choice m_row m_up m_low m_m m_bestUp m_bestLow m_replyUp m_replyLow m_worthUp m_worthLow m_bestWay i_seed m_told i_toldMany), (wI g m_tape 2 440 otf_47)]) [0, 1] rfl
    have hDc := hD.sub (ws' := [(wO12 mm 0 m_s m_spare m_kept m_undone m_triedWay m_isKept i_undoMany m_tape o_length_46 i_size i_p i_at i_token i_number i_letterMany i_fault i_faultAt m_letters i_isKnown m_choice m_row m_up m_low m_m m_bestUp m_bestLow m_replyUp m_replyLow m_worthUp m_worthLow m_bestWay i_seed m_told i_toldMany), (wI g m_tape 2 440 otf_47)]) [0, 1] (by decide) rfl
    have hFc := va_free (wc := [(wO12 mm 0 m_s m_spare m_kept m_undone m_triedWay m_isKept i_undoMany m_tape o_length_46 i_size i_p i_at i_token i_number i_letterMany i_fault i_faultAt m_letters i_isKnown m_choice m_row m_up m_low m_m m_bestUp m_bestLow m_replyUp m_replyLow m_worthUp m_worthLow m_bestWay i_seed m_told i_toldMany), (wI g m_tape 2 440 otf_47)]) hD hS hA [0, 1] rfl
    refine va_callv (va_runV (As := [.int p4]) (rest := []) ⟨hx, hb, hml, hown, hts⟩ (c_X12_four l D g H.size mm p4 0 m_s m_spare m_kept m_undone m_triedWay m_isKept i_undoMany m_tape o_length_46 i_size i_p i_at i_token i_number i_letterMany i_fault i_faultAt m_letters i_isKnown m_choice m_row m_up m_low m_m m_bestUp m_bestLow m_replyUp m_replyLow m_worthUp m_worthLow m_bestWay i_seed m_told i_toldMany otf_47 (tr_w h_i_undoMany (by decide) (by decide)) (tr_w h_50 (by decide) (by decide)) (tr_w h_i_size (by decide) (by decide)) (tr_w h_i_p (by decide) (by decide)) (tr_w h_i_at (by decide) (by decide)) (tr_w h_i_token (by decide) (by decide)) (tr_w h_i_number (by decide) (by decide)) (tr_w h_i_letterMany (by decide) (by decide)) (tr_w h_i_faultAt (by decide) (by decide)) (tr_w h_i_isKnown (by decide) (by decide)) (tr_w h_i_toldMany (by decide) (by decide))) (cwV 1 hts (tz_gV qw_7 qw_8 qw_9 qw_3 qw_10) rfl rfl rfl (by decide +kernel) ⟨Nat.le_of_ble_eq_true rfl, Nat.le_of_ble_eq_true rfl⟩) ⟨tz_blQ, va_recv hK hPc (ci := 12) (q0 := 0) rfl rfl, tz_preQ hPc hK hDc⟩ rfl rfl hl.1 rfl (lv_room (Nat.le_of_ble_eq_true rfl)) dX12_feed_44 ⟨Nat.le_of_ble_eq_true rfl, Nat.le_of_ble_eq_true rfl⟩) hS (fun q _ h => hFc q h) hFc (fun u t H1 locs ht hvm hw hB hz1 hk1 hS => ?_)
    obtain ⟨o_length_52, otf_53, hf_54, hf_55, hP1, hD1⟩ := hB
    rw [ht] at hP1
    obtain ⟨hP, hD⟩ := va_join (wr := []) (w1 := [(wO12 mm 0 m_s m_spare m_kept m_undone m_triedWay m_isKept i_undoMany m_tape o_length_52 i_size i_p i_at i_token i_number i_letterMany i_fault i_faultAt m_letters i_isKnown m_choice m_row m_up m_low m_m m_bestUp m_bestLow m_replyUp m_replyLow m_worthUp m_worthLow m_bestWay i_seed m_told i_toldMany), (wI g m_tape 2 440 otf_53)]) hP hD [0, 1] [] rfl rfl (by decide) (by decide) hk1 hFc hP1 hD1
    generalize H1 = H at hP hS ⊢
    have hP : va_P D vwCl [(wO12 mm 0 m_s m_spare m_kept m_undone m_triedWay m_isKept i_undoMany m_tape o_length_52 i_size i_p i_at i_token i_number i_letterMany i_fault i_faultAt m_letters i_isKnown m_choice m_row m_up m_low m_m m_bestUp m_bestLow m_replyUp m_replyLow m_worthUp m_worthLow m_bestWay i_seed m_told i_toldMany), (wI g m_tape 2 440 otf_53)] H := hP
    have hD : va_D A [(wO12 mm 0 m_s m_spare m_kept m_undone m_triedWay m_isKept i_undoMany m_tape o_length_52 i_size i_p i_at i_token i_number i_letterMany i_fault i_faultAt m_letters i_isKnown m_choice m_row m_up m_low m_m m_bestUp m_bestLow m_replyUp m_replyLow m_worthUp m_worthLow m_bestWay i_seed m_told i_toldMany), (wI g m_tape 2 440 otf_53)] := hD
    refine lv_aload_n hx hb dX12_feed_47 rfl (lv_at hl 0 rfl) ?_
    refine va_get (D := D) (ci := 12) (v := .int o_length_52) (C := RX12) (T := TX12) (N := 35) hx hb hts inlX12 hown hK hP 0 rfl rfl 9 (by decide) (hts (Cond.fieldLink RX12 82 "ChanceRingsModel" "length" "I") qw_6) (fun _ h9 => h9) rfl dX12_feed_48 ?_
    have hP9 := hP.sub (ws' := [(wO12 mm 0 m_s m_spare m_kept m_undone m_triedWay m_isKept i_undoMany m_tape o_length_52 i_size i_p i_at i_token i_number i_letterMany i_fault i_faultAt m_letters i_isKnown m_choice m_row m_up m_low m_m m_bestUp m_bestLow m_replyUp m_replyLow m_worthUp m_worthLow m_bestWay i_seed m_told i_toldMany), (wI g m_tape 2 440 otf_53)]) [0, 1] rfl
    have hD9 := hD.sub (ws' := [(wO12 mm 0 m_s m_spare m_kept m_undone m_triedWay m_isKept i_undoMany m_tape o_length_52 i_size i_p i_at i_token i_number i_letterMany i_fault i_faultAt m_letters i_isKnown m_choice m_row m_up m_low m_m m_bestUp m_bestLow m_replyUp m_replyLow m_worthUp m_worthLow m_bestWay i_seed m_told i_toldMany), (wI g m_tape 2 440 otf_53)]) [0, 1] (by decide) rfl
    exact W.iret (v := o_length_52) hx hb hr (fun t ht hW => ⟨⟨o_length_52, (), rfl, ⟨(tr_w hf_54 (by decide) (by decide)), (by have z_0 := tk_0; have z_1 := tk_1; (first | (clear h_i_undoMany h_i_length h_i_size h_i_p h_i_at h_i_token h_i_number h_i_letterMany h_i_faultAt h_i_isKnown h_i_toldMany h_v_22 q_v_22 c_23_i h_24 h_26 h_32 h_38 h_44 h_50; omega) | omega))⟩, 0, o_length_52, otf_53, (tr_w hf_54 (by decide) (by decide)), (by have z_0 := tk_0; have z_1 := tk_1; (first | (clear h_i_undoMany h_i_length h_i_size h_i_p h_i_at h_i_token h_i_number h_i_letterMany h_i_faultAt h_i_isKnown h_i_toldMany h_v_22 q_v_22 c_23_i h_24 h_26 h_32 h_38 h_44 h_50; omega) | omega)), by rw [ht]; exact hP9, hD9⟩, hS.F ht⟩) hS.2.2 dX12_feed_51
  · skip
    have kk_440 := tk_440
    have c_23_i := Int32.lt_iff_toInt_lt.mp (Int32.not_le.mp c_23)
    have h_25 : 441 ≤ (v_22 : Int32).toInt ∧ (v_22 : Int32).toInt ≤ 460 := nr_lt_r (⟨by decide, by decide⟩ : 440 ≤ (440 : Int32).toInt ∧ (440 : Int32).toInt ≤ 440) h_v_22 c_23_i (by decide) (by decide)
    refine lv_iconst (v := (-1)) hx hb dX12_feed_18 (by decide) ?_
    have hP9 := hP.sub (ws' := [(wO12 mm 0 m_s m_spare m_kept m_undone m_triedWay m_isKept i_undoMany m_tape i_length i_size i_p i_at i_token i_number i_letterMany i_fault i_faultAt m_letters i_isKnown m_choice m_row m_up m_low m_m m_bestUp m_bestLow m_replyUp m_replyLow m_worthUp m_worthLow m_bestWay i_seed m_told i_toldMany), (wI g m_tape 2 440 tf)]) [0, 1] rfl
    have hD9 := hD.sub (ws' := [(wO12 mm 0 m_s m_spare m_kept m_undone m_triedWay m_isKept i_undoMany m_tape i_length i_size i_p i_at i_token i_number i_letterMany i_fault i_faultAt m_letters i_isKnown m_choice m_row m_up m_low m_m m_bestUp m_bestLow m_replyUp m_replyLow m_worthUp m_worthLow m_bestWay i_seed m_told i_toldMany), (wI g m_tape 2 440 tf)]) [0, 1] (by decide) rfl
    exact W.iret (v := (-1)) hx hb hr (fun t ht hW => ⟨⟨(-1), (), rfl, ⟨(⟨by decide, by decide⟩ : (-1) ≤ ((-1) : Int32).toInt ∧ ((-1) : Int32).toInt ≤ 440), (by have z_m1 := tk_m1; have z_0 := tk_0; have z_1 := tk_1; (first | (clear h_i_undoMany h_i_size h_i_p h_i_at h_i_token h_i_number h_i_letterMany h_i_faultAt h_i_isKnown h_i_toldMany; omega) | omega))⟩, 0, i_length, tf, (tr_w h_i_length (by decide) (by decide)), (by have z_0 := tk_0; have z_1 := tk_1; (first | (clear h_i_undoMany h_i_size h_i_p h_i_at h_i_token h_i_number h_i_letterMany h_i_faultAt h_i_isKnown h_i_toldMany; omega) | omega)), by rw [ht]; exact hP9, hD9⟩, hS.F ht⟩) hS.2.2 dX12_feed_19
set_option maxHeartbeats 4000000 in
set_option maxRecDepth 100000 in
theorem c_X12_end (l : Launch) (D : va_G) (g : Nat → ClassId) (sz : Nat) (mm : Nat) (p0 : Int32) (i_thrown : Int32) (m_s : Nat) (m_spare : Nat) (m_kept : Nat) (m_undone : Nat) (m_triedWay : Nat) (m_isKept : Nat) (i_undoMany : Int32) (m_tape : Nat) (i_length : Int32) (i_size : Int32) (i_p : Int32) (i_at : Int32) (i_token : Int32) (i_number : Int32) (i_letterMany : Int32) (i_fault : Int32) (i_faultAt : Int32) (m_letters : Nat) (i_isKnown : Int32) (m_choice : Nat) (m_row : Nat) (m_up : Nat) (m_low : Nat) (m_m : Nat) (m_bestUp : Nat) (m_bestLow : Nat) (m_replyUp : Nat) (m_replyLow : Nat) (m_worthUp : Nat) (m_worthLow : Nat) (m_bestWay : Nat) (i_seed : Int32) (m_told : Nat) (i_toldMany : Int32) (h_i_undoMany : 0 ≤ (i_undoMany : Int32).toInt ∧ (i_undoMany : Int32).toInt ≤ 8) (h_i_length : 0 ≤ (i_length : Int32).toInt ∧ (i_length : Int32).toInt ≤ 440) (h_i_size : 0 ≤ (i_size : Int32).toInt ∧ (i_size : Int32).toInt ≤ 440) (h_i_p : 0 ≤ (i_p : Int32).toInt ∧ (i_p : Int32).toInt ≤ 440) (h_i_at : 0 ≤ (i_at : Int32).toInt ∧ (i_at : Int32).toInt ≤ 440) (h_i_token : 0 ≤ (i_token : Int32).toInt ∧ (i_token : Int32).toInt ≤ 4) (h_i_number : 0 ≤ (i_number : Int32).toInt ∧ (i_number : Int32).toInt ≤ 814) (h_i_letterMany : (-440) ≤ (i_letterMany : Int32).toInt ∧ (i_letterMany : Int32).toInt ≤ 440) (h_i_faultAt : 0 ≤ (i_faultAt : Int32).toInt ∧ (i_faultAt : Int32).toInt ≤ 440) (h_i_isKnown : 0 ≤ (i_isKnown : Int32).toInt ∧ (i_isKnown : Int32).toInt ≤ 1) (h_i_toldMany : 0 ≤ (i_toldMany : Int32).toInt ∧ (i_toldMany : Int32).toInt ≤ 900) : Met l yX12_end (.code yX12_end cX12_end 2 (some .boolean) :: wsL_law) ({ frames := 0, cells := 0, slots := 0, locals := 0 }) (va_Pc [.ref mm, .int p0] (fun U => U.heap.size = sz ∧ va_P D vwCl [(wO12 mm i_thrown m_s m_spare m_kept m_undone m_triedWay m_isKept i_undoMany m_tape i_length i_size i_p i_at i_token i_number i_letterMany i_fault i_faultAt m_letters i_isKnown m_choice m_row m_up m_low m_m m_bestUp m_bestLow m_replyUp m_replyLow m_worthUp m_worthLow m_bestWay i_seed m_told i_toldMany)] U.heap ∧ va_K D vwCl (TY g) U ∧ va_D (fun _ => True) [(wO12 mm i_thrown m_s m_spare m_kept m_undone m_triedWay m_isKept i_undoMany m_tape i_length i_size i_p i_at i_token i_number i_letterMany i_fault i_faultAt m_letters i_isKnown m_choice m_row m_up m_low m_m m_bestUp m_bestLow m_replyUp m_replyLow m_worthUp m_worthLow m_bestWay i_seed m_told i_toldMany)])) (va_Qi (fun r (_ : Unit) => (0 ≤ (r : Int32).toInt ∧ (r : Int32).toInt ≤ 1) ∧ (((0 ≤ (p0 : Int32).toInt ∧ (p0 : Int32).toInt ≤ (i_length : Int32).toInt) → (r : Int32).toInt = 1) ∧ (¬ (0 ≤ (p0 : Int32).toInt ∧ (p0 : Int32).toInt ≤ (i_length : Int32).toInt) → (r : Int32).toInt = 0))) (fun _ t => ∃ o_thrown : Int32, ∃ o_length : Int32, (0 ≤ (o_length : Int32).toInt ∧ (o_length : Int32).toInt ≤ 440) ∧ (((0 ≤ (p0 : Int32).toInt ∧ (p0 : Int32).toInt ≤ (i_length : Int32).toInt) → (o_length : Int32).toInt = (p0 : Int32).toInt) ∧ (¬ (0 ≤ (p0 : Int32).toInt ∧ (p0 : Int32).toInt ≤ (i_length : Int32).toInt) → (o_length : Int32).toInt = (i_length : Int32).toInt)) ∧ va_P D vwCl [(wO12 mm o_thrown m_s m_spare m_kept m_undone m_triedWay m_isKept i_undoMany m_tape o_length i_size i_p i_at i_token i_number i_letterMany i_fault i_faultAt m_letters i_isKnown m_choice m_row m_up m_low m_m m_bestUp m_bestLow m_replyUp m_replyLow m_worthUp m_worthLow m_bestWay i_seed m_told i_toldMany)] t.heap ∧ va_D (va_A [(wO12 mm i_thrown m_s m_spare m_kept m_undone m_triedWay m_isKept i_undoMany m_tape i_length i_size i_p i_at i_token i_number i_letterMany i_fault i_faultAt m_letters i_isKnown m_choice m_row m_up m_low m_m m_bestUp m_bestLow m_replyUp m_replyLow m_worthUp m_worthLow m_bestWay i_seed m_told i_toldMany)] sz) [(wO12 mm o_thrown m_s m_spare m_kept m_undone m_triedWay m_isKept i_undoMany m_tape o_length i_size i_p i_at i_token i_number i_letterMany i_fault i_faultAt m_letters i_isKnown m_choice m_row m_up m_low m_m m_bestUp m_bestLow m_replyUp m_replyLow m_worthUp m_worthLow m_bestWay i_seed m_told i_toldMany)]) (va_A [(wO12 mm i_thrown m_s m_spare m_kept m_undone m_triedWay m_isKept i_undoMany m_tape i_length i_size i_p i_at i_token i_number i_letterMany i_fault i_faultAt m_letters i_isKnown m_choice m_row m_up m_low m_m m_bestUp m_bestLow m_replyUp m_replyLow m_worthUp m_worthLow m_bestWay i_seed m_told i_toldMany)] sz)) 0 0 (va_A [(wO12 mm i_thrown m_s m_spare m_kept m_undone m_triedWay m_isKept i_undoMany m_tape i_length i_size i_p i_at i_token i_number i_letterMany i_fault i_faultAt m_letters i_isKnown m_choice m_row m_up m_low m_m m_bestUp m_bestLow m_replyUp m_replyLow m_worthUp m_worthLow m_bestWay i_seed m_told i_toldMany)] sz) := by
  refine Met.ofW (cc := cX12_end) (maxL := 2) (ret := (some .boolean)) (by decide) rfl ?_
  intro p e s m args below meth c s₁ B hml hv
  obtain ⟨ha, hsz, hP, hK, hD0⟩ := hv
  have hx := B.exec
  have hb := B.bytes
  have hr := B.returns
  have hts0 := atoms_spec (ws := (.code yX12_end cX12_end 2 (some .boolean) :: wsL_law)) B.pre
  have hts : ∀ w ∈ wsL_law, w.before args s = true := fun w h => hts0 w (List.mem_cons_of_mem _ h)
  have hown : s.vm.findClass RX12 = some m.cls := findClass_of_methodNamed B.named
  have hlocks := B.notSynchronized
  subst hsz
  have hD := hD0.self (sz := s.heap.size)
  generalize hAe : va_A [(wO12 mm i_thrown m_s m_spare m_kept m_undone m_triedWay m_isKept i_undoMany m_tape i_length i_size i_p i_at i_token i_number i_letterMany i_fault i_faultAt m_letters i_isKnown m_choice m_row m_up m_low m_m m_bestUp m_bestLow m_replyUp m_replyLow m_worthUp m_worthLow m_bestWay i_seed m_told i_toldMany)] s.heap.size = A at hD ⊢
  have hA : ∀ q : Nat, s.heap.size ≤ q → A q := fun q h => by rw [← hAe]; exact Or.inr h
  have hS : va_S A s.heap s.heap [] := va_S.rf
  have hP : va_P D vwCl [(wO12 mm i_thrown m_s m_spare m_kept m_undone m_triedWay m_isKept i_undoMany m_tape i_length i_size i_p i_at i_token i_number i_letterMany i_fault i_faultAt m_letters i_isKnown m_choice m_row m_up m_low m_m m_bestUp m_bestLow m_replyUp m_replyLow m_worthUp m_worthLow m_bestWay i_seed m_told i_toldMany)] s.heap := hP
  refine W.eq (g2 := entryFrame m ([.ref mm, .int p0] : List Value).toArray 2) (by rw [ha]) ?_
  have hl := lv_entry ([.ref mm, .int p0]) (n := 2) (Nat.le_of_ble_eq_true rfl)
  rw [lg_entry_eq]
  generalize (lg_sl ([.ref mm, .int p0]) ++ List.replicate (2 - (lg_sl ([.ref mm, .int p0])).length) Slot.unset).toArray = ls at hl ⊢
  have hl : lv_has ls 2 [(0, .ref mm), (1, .int p0)] := hl
  refine lv_aload_n hx hb dX12_end_0 rfl (lv_at hl 0 rfl) ?_
  refine lv_iconst (v := 0) hx hb dX12_end_1 (by decide) ?_
  refine va_put (D := D) (ci := 12) (v := .int 0) (ty := .int) (C := RX12) (T := TX12) (N := 35) hx hb hts inlX12 tyX12 tyX12_ok nmX12 hown hK hP hD hS 0 rfl rfl 0 (by decide) (hts (Cond.fieldLink RX12 1 "ChanceRingsModel" "thrown" "I") qw_0) (fun _ h9 => h9) rfl (by decide +kernel) rfl rfl (Nat.le_of_ble_eq_true rfl) dX12_end_2 (fun H locs hP hD hS => ?_)
  have hP : va_P D vwCl [(wO12 mm 0 m_s m_spare m_kept m_undone m_triedWay m_isKept i_undoMany m_tape i_length i_size i_p i_at i_token i_number i_letterMany i_fault i_faultAt m_letters i_isKnown m_choice m_row m_up m_low m_m m_bestUp m_bestLow m_replyUp m_replyLow m_worthUp m_worthLow m_bestWay i_seed m_told i_toldMany)] H := hP
  have hD : va_D A [(wO12 mm 0 m_s m_spare m_kept m_undone m_triedWay m_isKept i_undoMany m_tape i_length i_size i_p i_at i_token i_number i_letterMany i_fault i_faultAt m_letters i_isKnown m_choice m_row m_up m_low m_m m_bestUp m_bestLow m_replyUp m_replyLow m_worthUp m_worthLow m_bestWay i_seed m_told i_toldMany)] := hD
  refine lv_iload_n hx hb dX12_end_5 rfl (lv_at hl 1 rfl) ?_
  refine lv_if_lt (tgt := 17) hx hb dX12_end_6 (by decide) (fun c_56 => ?_) (fun c_56 => ?_)
  · skip
    have kk_0 := tk_0
    have c_56_i := Int32.lt_iff_toInt_lt.mp c_56
    have h_57 : (-2147483648) ≤ (p0 : Int32).toInt ∧ (p0 : Int32).toInt ≤ (-1) := nr_lt_l (tr_any p0) (⟨by decide, by decide⟩ : 0 ≤ (0 : Int32).toInt ∧ (0 : Int32).toInt ≤ 0) c_56_i (by decide) (by decide)
    refine lv_iconst (v := 0) hx hb dX12_end_17 (by decide) ?_
    have hP9 := hP.sub (ws' := [(wO12 mm 0 m_s m_spare m_kept m_undone m_triedWay m_isKept i_undoMany m_tape i_length i_size i_p i_at i_token i_number i_letterMany i_fault i_faultAt m_letters i_isKnown m_choice m_row m_up m_low m_m m_bestUp m_bestLow m_replyUp m_replyLow m_worthUp m_worthLow m_bestWay i_seed m_told i_toldMany)]) [0] rfl
    have hD9 := hD.sub (ws' := [(wO12 mm 0 m_s m_spare m_kept m_undone m_triedWay m_isKept i_undoMany m_tape i_length i_size i_p i_at i_token i_number i_letterMany i_fault i_faultAt m_letters i_isKnown m_choice m_row m_up m_low m_m m_bestUp m_bestLow m_replyUp m_replyLow m_worthUp m_worthLow m_bestWay i_seed m_told i_toldMany)]) [0] (by decide) rfl
    exact W.zret (v := 0) hx hb hr (by decide) (fun t ht hW => ⟨⟨0, (), rfl, ⟨(⟨by decide, by decide⟩ : 0 ≤ (0 : Int32).toInt ∧ (0 : Int32).toInt ≤ 1), (by have z_0 := tk_0; have z_1 := tk_1; (first | (clear h_i_undoMany h_i_size h_i_p h_i_at h_i_token h_i_number h_i_letterMany h_i_faultAt h_i_isKnown h_i_toldMany c_56_i h_57; omega) | omega))⟩, 0, i_length, (tr_w h_i_length (by decide) (by decide)), (by have z_0 := tk_0; have z_1 := tk_1; (first | (clear h_i_undoMany h_i_size h_i_p h_i_at h_i_token h_i_number h_i_letterMany h_i_faultAt h_i_isKnown h_i_toldMany c_56_i h_57; omega) | omega)), by rw [ht]; exact hP9, hD9⟩, hS.F ht⟩) hS.2.2 dX12_end_18
  · skip
    have kk_0 := tk_0
    have c_56_i := Int32.le_iff_toInt_le.mp (Int32.not_lt.mp c_56)
    have h_58 : 0 ≤ (p0 : Int32).toInt ∧ (p0 : Int32).toInt ≤ 2147483647 := nr_le_r (⟨by decide, by decide⟩ : 0 ≤ (0 : Int32).toInt ∧ (0 : Int32).toInt ≤ 0) (tr_any p0) c_56_i (by decide) (by decide)
    refine lv_iload_n hx hb dX12_end_9 rfl (lv_at hl 1 rfl) ?_
    refine lv_aload_n hx hb dX12_end_10 rfl (lv_at hl 0 rfl) ?_
    refine va_get (D := D) (ci := 12) (v := .int i_length) (C := RX12) (T := TX12) (N := 35) hx hb hts inlX12 hown hK hP 0 rfl rfl 9 (by decide) (hts (Cond.fieldLink RX12 82 "ChanceRingsModel" "length" "I") qw_6) (fun _ h9 => h9) rfl dX12_end_11 ?_
    refine lv_icmp_le (tgt := 19) hx hb dX12_end_14 (by decide) (fun c_59 => ?_) (fun c_59 => ?_)
    · skip
      have c_59_i := Int32.le_iff_toInt_le.mp c_59
      have h_60 : 0 ≤ (p0 : Int32).toInt ∧ (p0 : Int32).toInt ≤ 440 := nr_le_l h_58 h_i_length c_59_i (by decide) (by decide)
      refine lv_aload_n hx hb dX12_end_19 rfl (lv_at hl 0 rfl) ?_
      refine lv_iload_n hx hb dX12_end_20 rfl (lv_at hl 1 rfl) ?_
      refine va_put (D := D) (ci := 12) (v := .int p0) (ty := .int) (C := RX12) (T := TX12) (N := 35) hx hb hts inlX12 tyX12 tyX12_ok nmX12 hown hK hP hD hS 0 rfl rfl 9 (by decide) (hts (Cond.fieldLink RX12 82 "ChanceRingsModel" "length" "I") qw_6) (fun _ h9 => h9) rfl (by decide +kernel) rfl rfl (Nat.le_of_ble_eq_true rfl) dX12_end_21 (fun H locs hP hD hS => ?_)
      have hP : va_P D vwCl [(wO12 mm 0 m_s m_spare m_kept m_undone m_triedWay m_isKept i_undoMany m_tape p0 i_size i_p i_at i_token i_number i_letterMany i_fault i_faultAt m_letters i_isKnown m_choice m_row m_up m_low m_m m_bestUp m_bestLow m_replyUp m_replyLow m_worthUp m_worthLow m_bestWay i_seed m_told i_toldMany)] H := hP
      have hD : va_D A [(wO12 mm 0 m_s m_spare m_kept m_undone m_triedWay m_isKept i_undoMany m_tape p0 i_size i_p i_at i_token i_number i_letterMany i_fault i_faultAt m_letters i_isKnown m_choice m_row m_up m_low m_m m_bestUp m_bestLow m_replyUp m_replyLow m_worthUp m_worthLow m_bestWay i_seed m_told i_toldMany)] := hD
      refine lv_iconst (v := 1) hx hb dX12_end_24 (by decide) ?_
      have hP9 := hP.sub (ws' := [(wO12 mm 0 m_s m_spare m_kept m_undone m_triedWay m_isKept i_undoMany m_tape p0 i_size i_p i_at i_token i_number i_letterMany i_fault i_faultAt m_letters i_isKnown m_choice m_row m_up m_low m_m m_bestUp m_bestLow m_replyUp m_replyLow m_worthUp m_worthLow m_bestWay i_seed m_told i_toldMany)]) [0] rfl
      have hD9 := hD.sub (ws' := [(wO12 mm 0 m_s m_spare m_kept m_undone m_triedWay m_isKept i_undoMany m_tape p0 i_size i_p i_at i_token i_number i_letterMany i_fault i_faultAt m_letters i_isKnown m_choice m_row m_up m_low m_m m_bestUp m_bestLow m_replyUp m_replyLow m_worthUp m_worthLow m_bestWay i_seed m_told i_toldMany)]) [0] (by decide) rfl
      exact W.zret (v := 1) hx hb hr (by decide) (fun t ht hW => ⟨⟨1, (), rfl, ⟨(⟨by decide, by decide⟩ : 0 ≤ (1 : Int32).toInt ∧ (1 : Int32).toInt ≤ 1), (by have z_0 := tk_0; have z_1 := tk_1; (first | (clear h_i_undoMany h_i_size h_i_p h_i_at h_i_token h_i_number h_i_letterMany h_i_faultAt h_i_isKnown h_i_toldMany; omega) | omega))⟩, 0, p0, (tr_w h_60 (by decide) (by decide)), (by have z_0 := tk_0; have z_1 := tk_1; (first | (clear h_i_undoMany h_i_size h_i_p h_i_at h_i_token h_i_number h_i_letterMany h_i_faultAt h_i_isKnown h_i_toldMany; omega) | omega)), by rw [ht]; exact hP9, hD9⟩, hS.F ht⟩) hS.2.2 dX12_end_25
    · skip
      have c_59_i := Int32.lt_iff_toInt_lt.mp (Int32.not_le.mp c_59)
      have h_61 : 1 ≤ (p0 : Int32).toInt ∧ (p0 : Int32).toInt ≤ 2147483647 := nr_lt_r h_i_length h_58 c_59_i (by decide) (by decide)
      refine lv_iconst (v := 0) hx hb dX12_end_17 (by decide) ?_
      have hP9 := hP.sub (ws' := [(wO12 mm 0 m_s m_spare m_kept m_undone m_triedWay m_isKept i_undoMany m_tape i_length i_size i_p i_at i_token i_number i_letterMany i_fault i_faultAt m_letters i_isKnown m_choice m_row m_up m_low m_m m_bestUp m_bestLow m_replyUp m_replyLow m_worthUp m_worthLow m_bestWay i_seed m_told i_toldMany)]) [0] rfl
      have hD9 := hD.sub (ws' := [(wO12 mm 0 m_s m_spare m_kept m_undone m_triedWay m_isKept i_undoMany m_tape i_length i_size i_p i_at i_token i_number i_letterMany i_fault i_faultAt m_letters i_isKnown m_choice m_row m_up m_low m_m m_bestUp m_bestLow m_replyUp m_replyLow m_worthUp m_worthLow m_bestWay i_seed m_told i_toldMany)]) [0] (by decide) rfl
      exact W.zret (v := 0) hx hb hr (by decide) (fun t ht hW => ⟨⟨0, (), rfl, ⟨(⟨by decide, by decide⟩ : 0 ≤ (0 : Int32).toInt ∧ (0 : Int32).toInt ≤ 1), (by have z_0 := tk_0; have z_1 := tk_1; (first | (clear h_i_undoMany h_i_size h_i_p h_i_at h_i_token h_i_number h_i_letterMany h_i_faultAt h_i_isKnown h_i_toldMany; omega) | omega))⟩, 0, i_length, (tr_w h_i_length (by decide) (by decide)), (by have z_0 := tk_0; have z_1 := tk_1; (first | (clear h_i_undoMany h_i_size h_i_p h_i_at h_i_token h_i_number h_i_letterMany h_i_faultAt h_i_isKnown h_i_toldMany; omega) | omega)), by rw [ht]; exact hP9, hD9⟩, hS.F ht⟩) hS.2.2 dX12_end_18
set_option maxHeartbeats 4000000 in
set_option maxRecDepth 100000 in
theorem c_X12_taken (l : Launch) (D : va_G) (g : Nat → ClassId) (sz : Nat) (mm : Nat) (i_thrown : Int32) (m_s : Nat) (m_spare : Nat) (m_kept : Nat) (m_undone : Nat) (m_triedWay : Nat) (m_isKept : Nat) (i_undoMany : Int32) (m_tape : Nat) (i_length : Int32) (i_size : Int32) (i_p : Int32) (i_at : Int32) (i_token : Int32) (i_number : Int32) (i_letterMany : Int32) (i_fault : Int32) (i_faultAt : Int32) (m_letters : Nat) (i_isKnown : Int32) (m_choice : Nat) (m_row : Nat) (m_up : Nat) (m_low : Nat) (m_m : Nat) (m_bestUp : Nat) (m_bestLow : Nat) (m_replyUp : Nat) (m_replyLow : Nat) (m_worthUp : Nat) (m_worthLow : Nat) (m_bestWay : Nat) (i_seed : Int32) (m_told : Nat) (i_toldMany : Int32) (h_i_undoMany : 0 ≤ (i_undoMany : Int32).toInt ∧ (i_undoMany : Int32).toInt ≤ 8) (h_i_length : 0 ≤ (i_length : Int32).toInt ∧ (i_length : Int32).toInt ≤ 440) (h_i_size : 0 ≤ (i_size : Int32).toInt ∧ (i_size : Int32).toInt ≤ 440) (h_i_p : 0 ≤ (i_p : Int32).toInt ∧ (i_p : Int32).toInt ≤ 440) (h_i_at : 0 ≤ (i_at : Int32).toInt ∧ (i_at : Int32).toInt ≤ 440) (h_i_token : 0 ≤ (i_token : Int32).toInt ∧ (i_token : Int32).toInt ≤ 4) (h_i_number : 0 ≤ (i_number : Int32).toInt ∧ (i_number : Int32).toInt ≤ 814) (h_i_letterMany : (-440) ≤ (i_letterMany : Int32).toInt ∧ (i_letterMany : Int32).toInt ≤ 440) (h_i_faultAt : 0 ≤ (i_faultAt : Int32).toInt ∧ (i_faultAt : Int32).toInt ≤ 440) (h_i_isKnown : 0 ≤ (i_isKnown : Int32).toInt ∧ (i_isKnown : Int32).toInt ≤ 1) (h_i_toldMany : 0 ≤ (i_toldMany : Int32).toInt ∧ (i_toldMany : Int32).toInt ≤ 900) : Met l yX12_taken (.code yX12_taken cX12_taken 1 none :: wsL_law) ({ frames := 0, cells := 0, slots := 0, locals := 0 }) (va_Pc [.ref mm] (fun U => U.heap.size = sz ∧ va_P D vwCl [(wO12 mm i_thrown m_s m_spare m_kept m_undone m_triedWay m_isKept i_undoMany m_tape i_length i_size i_p i_at i_token i_number i_letterMany i_fault i_faultAt m_letters i_isKnown m_choice m_row m_up m_low m_m m_bestUp m_bestLow m_replyUp m_replyLow m_worthUp m_worthLow m_bestWay i_seed m_told i_toldMany)] U.heap ∧ va_K D vwCl (TY g) U ∧ va_D (fun _ => True) [(wO12 mm i_thrown m_s m_spare m_kept m_undone m_triedWay m_isKept i_undoMany m_tape i_length i_size i_p i_at i_token i_number i_letterMany i_fault i_faultAt m_letters i_isKnown m_choice m_row m_up m_low m_m m_bestUp m_bestLow m_replyUp m_replyLow m_worthUp m_worthLow m_bestWay i_seed m_told i_toldMany)])) (va_Qv (fun (_ : Unit) => True) (fun _ t => ∃ o_thrown : Int32, va_P D vwCl [(wO12 mm o_thrown m_s m_spare m_kept m_undone m_triedWay m_isKept i_undoMany m_tape 0 i_length i_p i_at i_token i_number i_letterMany i_fault i_faultAt m_letters i_isKnown m_choice m_row m_up m_low m_m m_bestUp m_bestLow m_replyUp m_replyLow m_worthUp m_worthLow m_bestWay i_seed m_told i_toldMany)] t.heap ∧ va_D (va_A [(wO12 mm i_thrown m_s m_spare m_kept m_undone m_triedWay m_isKept i_undoMany m_tape i_length i_size i_p i_at i_token i_number i_letterMany i_fault i_faultAt m_letters i_isKnown m_choice m_row m_up m_low m_m m_bestUp m_bestLow m_replyUp m_replyLow m_worthUp m_worthLow m_bestWay i_seed m_told i_toldMany)] sz) [(wO12 mm o_thrown m_s m_spare m_kept m_undone m_triedWay m_isKept i_undoMany m_tape 0 i_length i_p i_at i_token i_number i_letterMany i_fault i_faultAt m_letters i_isKnown m_choice m_row m_up m_low m_m m_bestUp m_bestLow m_replyUp m_replyLow m_worthUp m_worthLow m_bestWay i_seed m_told i_toldMany)]) (va_A [(wO12 mm i_thrown m_s m_spare m_kept m_undone m_triedWay m_isKept i_undoMany m_tape i_length i_size i_p i_at i_token i_number i_letterMany i_fault i_faultAt m_letters i_isKnown m_choice m_row m_up m_low m_m m_bestUp m_bestLow m_replyUp m_replyLow m_worthUp m_worthLow m_bestWay i_seed m_told i_toldMany)] sz)) 0 0 (va_A [(wO12 mm i_thrown m_s m_spare m_kept m_undone m_triedWay m_isKept i_undoMany m_tape i_length i_size i_p i_at i_token i_number i_letterMany i_fault i_faultAt m_letters i_isKnown m_choice m_row m_up m_low m_m m_bestUp m_bestLow m_replyUp m_replyLow m_worthUp m_worthLow m_bestWay i_seed m_told i_toldMany)] sz) := by
  refine Met.ofW (cc := cX12_taken) (maxL := 1) (ret := none) (by decide) rfl ?_
  intro p e s m args below meth c s₁ B hml hv
  obtain ⟨ha, hsz, hP, hK, hD0⟩ := hv
  have hx := B.exec
  have hb := B.bytes
  have hr := B.returns
  have hts0 := atoms_spec (ws := (.code yX12_taken cX12_taken 1 none :: wsL_law)) B.pre
  have hts : ∀ w ∈ wsL_law, w.before args s = true := fun w h => hts0 w (List.mem_cons_of_mem _ h)
  have hown : s.vm.findClass RX12 = some m.cls := findClass_of_methodNamed B.named
  have hlocks := B.notSynchronized
  subst hsz
  have hD := hD0.self (sz := s.heap.size)
  generalize hAe : va_A [(wO12 mm i_thrown m_s m_spare m_kept m_undone m_triedWay m_isKept i_undoMany m_tape i_length i_size i_p i_at i_token i_number i_letterMany i_fault i_faultAt m_letters i_isKnown m_choice m_row m_up m_low m_m m_bestUp m_bestLow m_replyUp m_replyLow m_worthUp m_worthLow m_bestWay i_seed m_told i_toldMany)] s.heap.size = A at hD ⊢
  have hA : ∀ q : Nat, s.heap.size ≤ q → A q := fun q h => by rw [← hAe]; exact Or.inr h
  have hS : va_S A s.heap s.heap [] := va_S.rf
  have hP : va_P D vwCl [(wO12 mm i_thrown m_s m_spare m_kept m_undone m_triedWay m_isKept i_undoMany m_tape i_length i_size i_p i_at i_token i_number i_letterMany i_fault i_faultAt m_letters i_isKnown m_choice m_row m_up m_low m_m m_bestUp m_bestLow m_replyUp m_replyLow m_worthUp m_worthLow m_bestWay i_seed m_told i_toldMany)] s.heap := hP
  refine W.eq (g2 := entryFrame m ([.ref mm] : List Value).toArray 1) (by rw [ha]) ?_
  have hl := lv_entry ([.ref mm]) (n := 1) (Nat.le_of_ble_eq_true rfl)
  rw [lg_entry_eq]
  generalize (lg_sl ([.ref mm]) ++ List.replicate (1 - (lg_sl ([.ref mm])).length) Slot.unset).toArray = ls at hl ⊢
  have hl : lv_has ls 1 [(0, .ref mm)] := hl
  refine lv_aload_n hx hb dX12_taken_0 rfl (lv_at hl 0 rfl) ?_
  refine lv_iconst (v := 0) hx hb dX12_taken_1 (by decide) ?_
  refine va_put (D := D) (ci := 12) (v := .int 0) (ty := .int) (C := RX12) (T := TX12) (N := 35) hx hb hts inlX12 tyX12 tyX12_ok nmX12 hown hK hP hD hS 0 rfl rfl 0 (by decide) (hts (Cond.fieldLink RX12 1 "ChanceRingsModel" "thrown" "I") qw_0) (fun _ h9 => h9) rfl (by decide +kernel) rfl rfl (Nat.le_of_ble_eq_true rfl) dX12_taken_2 (fun H locs hP hD hS => ?_)
  have hP : va_P D vwCl [(wO12 mm 0 m_s m_spare m_kept m_undone m_triedWay m_isKept i_undoMany m_tape i_length i_size i_p i_at i_token i_number i_letterMany i_fault i_faultAt m_letters i_isKnown m_choice m_row m_up m_low m_m m_bestUp m_bestLow m_replyUp m_replyLow m_worthUp m_worthLow m_bestWay i_seed m_told i_toldMany)] H := hP
  have hD : va_D A [(wO12 mm 0 m_s m_spare m_kept m_undone m_triedWay m_isKept i_undoMany m_tape i_length i_size i_p i_at i_token i_number i_letterMany i_fault i_faultAt m_letters i_isKnown m_choice m_row m_up m_low m_m m_bestUp m_bestLow m_replyUp m_replyLow m_worthUp m_worthLow m_bestWay i_seed m_told i_toldMany)] := hD
  refine lv_aload_n hx hb dX12_taken_5 rfl (lv_at hl 0 rfl) ?_
  refine lv_aload_n hx hb dX12_taken_6 rfl (lv_at hl 0 rfl) ?_
  refine va_get (D := D) (ci := 12) (v := .int i_length) (C := RX12) (T := TX12) (N := 35) hx hb hts inlX12 hown hK hP 0 rfl rfl 9 (by decide) (hts (Cond.fieldLink RX12 82 "ChanceRingsModel" "length" "I") qw_6) (fun _ h9 => h9) rfl dX12_taken_7 ?_
  refine va_put (D := D) (ci := 12) (v := .int i_length) (ty := .int) (C := RX12) (T := TX12) (N := 35) hx hb hts inlX12 tyX12 tyX12_ok nmX12 hown hK hP hD hS 0 rfl rfl 10 (by decide) (hts (Cond.fieldLink RX12 89 "ChanceRingsModel" "size" "I") qw_11) (fun _ h9 => h9) rfl (by decide +kernel) rfl rfl (Nat.le_of_ble_eq_true rfl) dX12_taken_10 (fun H locs hP hD hS => ?_)
  have hP : va_P D vwCl [(wO12 mm 0 m_s m_spare m_kept m_undone m_triedWay m_isKept i_undoMany m_tape i_length i_length i_p i_at i_token i_number i_letterMany i_fault i_faultAt m_letters i_isKnown m_choice m_row m_up m_low m_m m_bestUp m_bestLow m_replyUp m_replyLow m_worthUp m_worthLow m_bestWay i_seed m_told i_toldMany)] H := hP
  have hD : va_D A [(wO12 mm 0 m_s m_spare m_kept m_undone m_triedWay m_isKept i_undoMany m_tape i_length i_length i_p i_at i_token i_number i_letterMany i_fault i_faultAt m_letters i_isKnown m_choice m_row m_up m_low m_m m_bestUp m_bestLow m_replyUp m_replyLow m_worthUp m_worthLow m_bestWay i_seed m_told i_toldMany)] := hD
  refine lv_aload_n hx hb dX12_taken_13 rfl (lv_at hl 0 rfl) ?_
  refine lv_iconst (v := 0) hx hb dX12_taken_14 (by decide) ?_
  refine va_put (D := D) (ci := 12) (v := .int 0) (ty := .int) (C := RX12) (T := TX12) (N := 35) hx hb hts inlX12 tyX12 tyX12_ok nmX12 hown hK hP hD hS 0 rfl rfl 9 (by decide) (hts (Cond.fieldLink RX12 82 "ChanceRingsModel" "length" "I") qw_6) (fun _ h9 => h9) rfl (by decide +kernel) rfl rfl (Nat.le_of_ble_eq_true rfl) dX12_taken_15 (fun H locs hP hD hS => ?_)
  have hP : va_P D vwCl [(wO12 mm 0 m_s m_spare m_kept m_undone m_triedWay m_isKept i_undoMany m_tape 0 i_length i_p i_at i_token i_number i_letterMany i_fault i_faultAt m_letters i_isKnown m_choice m_row m_up m_low m_m m_bestUp m_bestLow m_replyUp m_replyLow m_worthUp m_worthLow m_bestWay i_seed m_told i_toldMany)] H := hP
  have hD : va_D A [(wO12 mm 0 m_s m_spare m_kept m_undone m_triedWay m_isKept i_undoMany m_tape 0 i_length i_p i_at i_token i_number i_letterMany i_fault i_faultAt m_letters i_isKnown m_choice m_row m_up m_low m_m m_bestUp m_bestLow m_replyUp m_replyLow m_worthUp m_worthLow m_bestWay i_seed m_told i_toldMany)] := hD
  have hP9 := hP.sub (ws' := [(wO12 mm 0 m_s m_spare m_kept m_undone m_triedWay m_isKept i_undoMany m_tape 0 i_length i_p i_at i_token i_number i_letterMany i_fault i_faultAt m_letters i_isKnown m_choice m_row m_up m_low m_m m_bestUp m_bestLow m_replyUp m_replyLow m_worthUp m_worthLow m_bestWay i_seed m_told i_toldMany)]) [0] rfl
  have hD9 := hD.sub (ws' := [(wO12 mm 0 m_s m_spare m_kept m_undone m_triedWay m_isKept i_undoMany m_tape 0 i_length i_p i_at i_token i_number i_letterMany i_fault i_faultAt m_letters i_isKnown m_choice m_row m_up m_low m_m m_bestUp m_bestLow m_replyUp m_replyLow m_worthUp m_worthLow m_bestWay i_seed m_told i_toldMany)]) [0] (by decide) rfl
  exact W.vret hx hb hr (fun t ht hW => ⟨⟨(), rfl, trivial, 0, by rw [ht]; exact hP9, hD9⟩, hS.F ht⟩) hS.2.2 dX12_taken_18
theorem qw_12 : Cond.fieldLink RX12 92 "ChanceRingsModel" "p" "I" ∈ wsL_law := tseg_5 (by decide +kernel) (List.mem_of_getElem? (i := 138) rfl)
theorem qw_13 : Cond.fieldLink RX12 99 "ChanceRingsModel" "fault" "I" ∈ wsL_law := tseg_5 (by decide +kernel) (List.mem_of_getElem? (i := 143) rfl)
theorem qw_14 : Cond.fieldLink RX12 102 "ChanceRingsModel" "faultAt" "I" ∈ wsL_law := tseg_5 (by decide +kernel) (List.mem_of_getElem? (i := 144) rfl)
theorem qw_15 : Cond.fieldLink RX12 105 "ChanceRingsModel" "at" "I" ∈ wsL_law := tseg_5 (by decide +kernel) (List.mem_of_getElem? (i := 139) rfl)
theorem qw_16 : Cond.methodLink RX12 108 yX12_bad ∈ wsL_law := tseg_6 (by decide +kernel) (List.mem_of_getElem? (i := 17) rfl)
theorem qw_17 : Cond.instanceMethod yX12_bad ∈ wsL_law := tseg_6 (by decide +kernel) (List.mem_of_getElem? (i := 19) rfl)
theorem qw_18 : Cond.selects RX12 yX12_bad yX12_bad ∈ wsL_law := List.mem_filter.mpr ⟨List.mem_append_left _ (List.mem_of_getElem? (i := 51) rfl), by decide +kernel⟩
theorem qw_19 : Cond.code yX12_bad cX12_bad 3 (some .boolean) ∈ wsL_law := tseg_6 (by decide +kernel) (List.mem_of_getElem? (i := 20) rfl)
theorem qw_20 : Cond.methodLink RX12 112 yX12_peek ∈ wsL_law := tseg_6 (by decide +kernel) (List.mem_of_getElem? (i := 25) rfl)
theorem qw_21 : Cond.instanceMethod yX12_peek ∈ wsL_law := tseg_6 (by decide +kernel) (List.mem_of_getElem? (i := 27) rfl)
theorem qw_22 : Cond.selects RX12 yX12_peek yX12_peek ∈ wsL_law := List.mem_filter.mpr ⟨List.mem_append_left _ (List.mem_of_getElem? (i := 53) rfl), by decide +kernel⟩
theorem qw_23 : Cond.code yX12_peek cX12_peek 1 (some .int) ∈ wsL_law := tseg_6 (by decide +kernel) (List.mem_of_getElem? (i := 28) rfl)
theorem qw_24 : Cond.methodLink RX12 119 yX12_isSmall ∈ wsL_law := tseg_6 (by decide +kernel) (List.mem_of_getElem? (i := 29) rfl)
theorem qw_25 : Cond.static yX12_isSmall ∈ wsL_law := tseg_6 (by decide +kernel) (List.mem_of_getElem? (i := 30) rfl)
theorem qw_26 : Cond.code yX12_isSmall cX12_isSmall 1 (some .boolean) ∈ wsL_law := tseg_6 (by decide +kernel) (List.mem_of_getElem? (i := 31) rfl)
theorem qw_27 : Cond.fieldLink RX12 126 "ChanceRingsModel" "number" "I" ∈ wsL_law := tseg_5 (by decide +kernel) (List.mem_of_getElem? (i := 141) rfl)
theorem qw_28 : Cond.fieldLink RX12 37 "ChanceRingsModel" "letters" "[B" ∈ wsL_law := tseg_5 (by decide +kernel) (List.mem_of_getElem? (i := 145) rfl)
theorem qw_29 : Cond.methodLink RX12 123 yX12_isDigit ∈ wsL_law := tseg_6 (by decide +kernel) (List.mem_of_getElem? (i := 35) rfl)
theorem qw_30 : Cond.static yX12_isDigit ∈ wsL_law := tseg_6 (by decide +kernel) (List.mem_of_getElem? (i := 36) rfl)
theorem qw_31 : Cond.code yX12_isDigit cX12_isDigit 1 (some .boolean) ∈ wsL_law := tseg_6 (by decide +kernel) (List.mem_of_getElem? (i := 37) rfl)
theorem qw_32 : Cond.fieldLink RX12 129 "ChanceRingsModel" "letterMany" "I" ∈ wsL_law := tseg_5 (by decide +kernel) (List.mem_of_getElem? (i := 142) rfl)
theorem qw_33 : Cond.fieldLink RX12 116 "ChanceRingsModel" "token" "I" ∈ wsL_law := tseg_5 (by decide +kernel) (List.mem_of_getElem? (i := 140) rfl)
theorem qw_34 : Cond.fieldLink RX12 132 "ChanceRingsModel" "KNOWN" "[B" ∈ wsL_law := tseg_6 (by decide +kernel) (List.mem_of_getElem? (i := 42) rfl)
theorem qw_35 : Cond.methodLink RX12 135 yX12_known ∈ wsL_law := tseg_6 (by decide +kernel) (List.mem_of_getElem? (i := 38) rfl)
theorem qw_36 : Cond.instanceMethod yX12_known ∈ wsL_law := tseg_6 (by decide +kernel) (List.mem_of_getElem? (i := 40) rfl)
theorem qw_37 : Cond.selects RX12 yX12_known yX12_known ∈ wsL_law := List.mem_filter.mpr ⟨List.mem_append_left _ (List.mem_of_getElem? (i := 54) rfl), by decide +kernel⟩
theorem qw_38 : Cond.code yX12_known cX12_known 4 (some .int) ∈ wsL_law := tseg_6 (by decide +kernel) (List.mem_of_getElem? (i := 41) rfl)
theorem dX12_bad_0 : decode cX12_bad 0 = .ok (.aload_n 0, 1) := by decide +kernel
theorem dX12_bad_1 : decode cX12_bad 1 = .ok (.iload_n 1, 1) := by decide +kernel
theorem dX12_bad_2 : decode cX12_bad 2 = .ok (.putfield 99, 3) := by decide +kernel
theorem dX12_bad_5 : decode cX12_bad 5 = .ok (.aload_n 0, 1) := by decide +kernel
theorem dX12_bad_6 : decode cX12_bad 6 = .ok (.iload_n 2, 1) := by decide +kernel
theorem dX12_bad_7 : decode cX12_bad 7 = .ok (.putfield 102, 3) := by decide +kernel
theorem dX12_bad_10 : decode cX12_bad 10 = .ok (.iconst 0, 1) := by decide +kernel
theorem dX12_bad_11 : decode cX12_bad 11 = .ok (.ireturn, 1) := by decide +kernel
theorem dX12_badHere_0 : decode cX12_badHere 0 = .ok (.aload_n 0, 1) := by decide +kernel
theorem dX12_badHere_1 : decode cX12_badHere 1 = .ok (.iload_n 1, 1) := by decide +kernel
theorem dX12_badHere_2 : decode cX12_badHere 2 = .ok (.aload_n 0, 1) := by decide +kernel
theorem dX12_badHere_3 : decode cX12_badHere 3 = .ok (.getfield 105, 3) := by decide +kernel
theorem dX12_badHere_6 : decode cX12_badHere 6 = .ok (.invokevirtual 108, 3) := by decide +kernel
theorem dX12_badHere_9 : decode cX12_badHere 9 = .ok (.ireturn, 1) := by decide +kernel
theorem dX12_isName_0 : decode cX12_isName 0 = .ok (.aload_n 0, 1) := by decide +kernel
theorem dX12_isName_1 : decode cX12_isName 1 = .ok (.getfield 116, 3) := by decide +kernel
theorem dX12_isName_4 : decode cX12_isName 4 = .ok (.iconst 1, 1) := by decide +kernel
theorem dX12_isName_5 : decode cX12_isName 5 = .ok (.if_icmp .ne 14, 3) := by decide +kernel
theorem dX12_isName_8 : decode cX12_isName 8 = .ok (.aload_n 0, 1) := by decide +kernel
theorem dX12_isName_9 : decode cX12_isName 9 = .ok (.invokevirtual 135, 3) := by decide +kernel
theorem dX12_isName_12 : decode cX12_isName 12 = .ok (.ifCond .ge 7, 3) := by decide +kernel
theorem dX12_isName_15 : decode cX12_isName 15 = .ok (.iconst 1, 1) := by decide +kernel
theorem dX12_isName_16 : decode cX12_isName 16 = .ok (.goto 4, 3) := by decide +kernel
theorem dX12_isName_19 : decode cX12_isName 19 = .ok (.iconst 0, 1) := by decide +kernel
theorem dX12_isName_20 : decode cX12_isName 20 = .ok (.ireturn, 1) := by decide +kernel
theorem dX12_known_0 : decode cX12_known 0 = .ok (.iconst 0, 1) := by decide +kernel
theorem dX12_known_1 : decode cX12_known 1 = .ok (.istore_n 1, 1) := by decide +kernel
theorem dX12_known_2 : decode cX12_known 2 = .ok (.iload_n 1, 1) := by decide +kernel
theorem dX12_known_3 : decode cX12_known 3 = .ok (.iconst 5, 1) := by decide +kernel
theorem dX12_known_4 : decode cX12_known 4 = .ok (.if_icmp .ge 84, 3) := by decide +kernel
theorem dX12_known_7 : decode cX12_known 7 = .ok (.aload_n 0, 1) := by decide +kernel
theorem dX12_known_8 : decode cX12_known 8 = .ok (.getfield 116, 3) := by decide +kernel
theorem dX12_known_11 : decode cX12_known 11 = .ok (.iconst 1, 1) := by decide +kernel
theorem dX12_known_12 : decode cX12_known 12 = .ok (.if_icmp .ne 7, 3) := by decide +kernel
theorem dX12_known_15 : decode cX12_known 15 = .ok (.iconst 1, 1) := by decide +kernel
theorem dX12_known_16 : decode cX12_known 16 = .ok (.goto 4, 3) := by decide +kernel
theorem dX12_known_19 : decode cX12_known 19 = .ok (.iconst 0, 1) := by decide +kernel
theorem dX12_known_20 : decode cX12_known 20 = .ok (.istore_n 2, 1) := by decide +kernel
theorem dX12_known_21 : decode cX12_known 21 = .ok (.iconst 0, 1) := by decide +kernel
theorem dX12_known_22 : decode cX12_known 22 = .ok (.istore_n 3, 1) := by decide +kernel
theorem dX12_known_23 : decode cX12_known 23 = .ok (.iload_n 3, 1) := by decide +kernel
theorem dX12_known_24 : decode cX12_known 24 = .ok (.bipush 6, 2) := by decide +kernel
theorem dX12_known_26 : decode cX12_known 26 = .ok (.if_icmp .ge 50, 3) := by decide +kernel
theorem dX12_known_29 : decode cX12_known 29 = .ok (.iload_n 2, 1) := by decide +kernel
theorem dX12_known_30 : decode cX12_known 30 = .ok (.ifCond .eq 46, 3) := by decide +kernel
theorem dX12_known_33 : decode cX12_known 33 = .ok (.getstatic 132, 3) := by decide +kernel
theorem dX12_known_36 : decode cX12_known 36 = .ok (.bipush 6, 2) := by decide +kernel
theorem dX12_known_38 : decode cX12_known 38 = .ok (.iload_n 1, 1) := by decide +kernel
theorem dX12_known_39 : decode cX12_known 39 = .ok (.imul, 1) := by decide +kernel
theorem dX12_known_40 : decode cX12_known 40 = .ok (.iload_n 3, 1) := by decide +kernel
theorem dX12_known_41 : decode cX12_known 41 = .ok (.iadd, 1) := by decide +kernel
theorem dX12_known_42 : decode cX12_known 42 = .ok (.baload, 1) := by decide +kernel
theorem dX12_known_43 : decode cX12_known 43 = .ok (.iload_n 3, 1) := by decide +kernel
theorem dX12_known_44 : decode cX12_known 44 = .ok (.aload_n 0, 1) := by decide +kernel
theorem dX12_known_45 : decode cX12_known 45 = .ok (.getfield 129, 3) := by decide +kernel
theorem dX12_known_48 : decode cX12_known 48 = .ok (.if_icmp .ge 12, 3) := by decide +kernel
theorem dX12_known_51 : decode cX12_known 51 = .ok (.aload_n 0, 1) := by decide +kernel
theorem dX12_known_52 : decode cX12_known 52 = .ok (.getfield 37, 3) := by decide +kernel
theorem dX12_known_55 : decode cX12_known 55 = .ok (.iload_n 3, 1) := by decide +kernel
theorem dX12_known_56 : decode cX12_known 56 = .ok (.baload, 1) := by decide +kernel
theorem dX12_known_57 : decode cX12_known 57 = .ok (.goto 4, 3) := by decide +kernel
theorem dX12_known_60 : decode cX12_known 60 = .ok (.iconst 0, 1) := by decide +kernel
theorem dX12_known_61 : decode cX12_known 61 = .ok (.if_icmp .ne 7, 3) := by decide +kernel
theorem dX12_known_64 : decode cX12_known 64 = .ok (.iconst 1, 1) := by decide +kernel
theorem dX12_known_65 : decode cX12_known 65 = .ok (.goto 4, 3) := by decide +kernel
theorem dX12_known_68 : decode cX12_known 68 = .ok (.iconst 0, 1) := by decide +kernel
theorem dX12_known_69 : decode cX12_known 69 = .ok (.istore_n 2, 1) := by decide +kernel
theorem dX12_known_70 : decode cX12_known 70 = .ok (.iinc 3 1, 3) := by decide +kernel
theorem dX12_known_73 : decode cX12_known 73 = .ok (.goto (-50), 3) := by decide +kernel
theorem dX12_known_76 : decode cX12_known 76 = .ok (.iload_n 2, 1) := by decide +kernel
theorem dX12_known_77 : decode cX12_known 77 = .ok (.ifCond .eq 5, 3) := by decide +kernel
theorem dX12_known_80 : decode cX12_known 80 = .ok (.iload_n 1, 1) := by decide +kernel
theorem dX12_known_81 : decode cX12_known 81 = .ok (.ireturn, 1) := by decide +kernel
theorem dX12_known_82 : decode cX12_known 82 = .ok (.iinc 1 1, 3) := by decide +kernel
theorem dX12_known_85 : decode cX12_known 85 = .ok (.goto (-83), 3) := by decide +kernel
theorem dX12_known_88 : decode cX12_known 88 = .ok (.iconst (-1), 1) := by decide +kernel
theorem dX12_known_89 : decode cX12_known 89 = .ok (.ireturn, 1) := by decide +kernel
theorem dX12_next_0 : decode cX12_next 0 = .ok (.aload_n 0, 1) := by decide +kernel
theorem dX12_next_1 : decode cX12_next 1 = .ok (.invokevirtual 112, 3) := by decide +kernel
theorem dX12_next_4 : decode cX12_next 4 = .ok (.bipush 32, 2) := by decide +kernel
theorem dX12_next_6 : decode cX12_next 6 = .ok (.if_icmp .ne 16, 3) := by decide +kernel
theorem dX12_next_9 : decode cX12_next 9 = .ok (.aload_n 0, 1) := by decide +kernel
theorem dX12_next_10 : decode cX12_next 10 = .ok (.dup, 1) := by decide +kernel
theorem dX12_next_11 : decode cX12_next 11 = .ok (.getfield 92, 3) := by decide +kernel
theorem dX12_next_14 : decode cX12_next 14 = .ok (.iconst 1, 1) := by decide +kernel
theorem dX12_next_15 : decode cX12_next 15 = .ok (.iadd, 1) := by decide +kernel
theorem dX12_next_16 : decode cX12_next 16 = .ok (.putfield 92, 3) := by decide +kernel
theorem dX12_next_19 : decode cX12_next 19 = .ok (.goto (-19), 3) := by decide +kernel
theorem dX12_next_22 : decode cX12_next 22 = .ok (.aload_n 0, 1) := by decide +kernel
theorem dX12_next_23 : decode cX12_next 23 = .ok (.aload_n 0, 1) := by decide +kernel
theorem dX12_next_24 : decode cX12_next 24 = .ok (.getfield 92, 3) := by decide +kernel
theorem dX12_next_27 : decode cX12_next 27 = .ok (.putfield 105, 3) := by decide +kernel
theorem dX12_next_30 : decode cX12_next 30 = .ok (.aload_n 0, 1) := by decide +kernel
theorem dX12_next_31 : decode cX12_next 31 = .ok (.invokevirtual 112, 3) := by decide +kernel
theorem dX12_next_34 : decode cX12_next 34 = .ok (.istore_n 1, 1) := by decide +kernel
theorem dX12_next_35 : decode cX12_next 35 = .ok (.iload_n 1, 1) := by decide +kernel
theorem dX12_next_36 : decode cX12_next 36 = .ok (.iconst (-1), 1) := by decide +kernel
theorem dX12_next_37 : decode cX12_next 37 = .ok (.if_icmp .ne 9, 3) := by decide +kernel
theorem dX12_next_40 : decode cX12_next 40 = .ok (.aload_n 0, 1) := by decide +kernel
theorem dX12_next_41 : decode cX12_next 41 = .ok (.iconst 0, 1) := by decide +kernel
theorem dX12_next_42 : decode cX12_next 42 = .ok (.putfield 116, 3) := by decide +kernel
theorem dX12_next_45 : decode cX12_next 45 = .ok (.return_, 1) := by decide +kernel
theorem dX12_next_46 : decode cX12_next 46 = .ok (.iload_n 1, 1) := by decide +kernel
theorem dX12_next_47 : decode cX12_next 47 = .ok (.invokestatic 119, 3) := by decide +kernel
theorem dX12_next_50 : decode cX12_next 50 = .ok (.ifCond .ne 36, 3) := by decide +kernel
theorem dX12_next_53 : decode cX12_next 53 = .ok (.iload_n 1, 1) := by decide +kernel
theorem dX12_next_54 : decode cX12_next 54 = .ok (.invokestatic 123, 3) := by decide +kernel
theorem dX12_next_57 : decode cX12_next 57 = .ok (.ifCond .ne 29, 3) := by decide +kernel
theorem dX12_next_60 : decode cX12_next 60 = .ok (.aload_n 0, 1) := by decide +kernel
theorem dX12_next_61 : decode cX12_next 61 = .ok (.dup, 1) := by decide +kernel
theorem dX12_next_62 : decode cX12_next 62 = .ok (.getfield 92, 3) := by decide +kernel
theorem dX12_next_65 : decode cX12_next 65 = .ok (.iconst 1, 1) := by decide +kernel
theorem dX12_next_66 : decode cX12_next 66 = .ok (.iadd, 1) := by decide +kernel
theorem dX12_next_67 : decode cX12_next 67 = .ok (.putfield 92, 3) := by decide +kernel
theorem dX12_next_70 : decode cX12_next 70 = .ok (.aload_n 0, 1) := by decide +kernel
theorem dX12_next_71 : decode cX12_next 71 = .ok (.iload_n 1, 1) := by decide +kernel
theorem dX12_next_72 : decode cX12_next 72 = .ok (.bipush 59, 2) := by decide +kernel
theorem dX12_next_74 : decode cX12_next 74 = .ok (.if_icmp .ne 7, 3) := by decide +kernel
theorem dX12_next_77 : decode cX12_next 77 = .ok (.iconst 3, 1) := by decide +kernel
theorem dX12_next_78 : decode cX12_next 78 = .ok (.goto 4, 3) := by decide +kernel
theorem dX12_next_81 : decode cX12_next 81 = .ok (.iconst 4, 1) := by decide +kernel
theorem dX12_next_82 : decode cX12_next 82 = .ok (.putfield 116, 3) := by decide +kernel
theorem dX12_next_85 : decode cX12_next 85 = .ok (.return_, 1) := by decide +kernel
theorem dX12_next_86 : decode cX12_next 86 = .ok (.iconst 0, 1) := by decide +kernel
theorem dX12_next_87 : decode cX12_next 87 = .ok (.istore_n 2, 1) := by decide +kernel
theorem dX12_next_88 : decode cX12_next 88 = .ok (.aload_n 0, 1) := by decide +kernel
theorem dX12_next_89 : decode cX12_next 89 = .ok (.iconst 0, 1) := by decide +kernel
theorem dX12_next_90 : decode cX12_next 90 = .ok (.putfield 126, 3) := by decide +kernel
theorem dX12_next_93 : decode cX12_next 93 = .ok (.aload_n 0, 1) := by decide +kernel
theorem dX12_next_94 : decode cX12_next 94 = .ok (.invokevirtual 112, 3) := by decide +kernel
theorem dX12_next_97 : decode cX12_next 97 = .ok (.invokestatic 119, 3) := by decide +kernel
theorem dX12_next_100 : decode cX12_next 100 = .ok (.ifCond .ne 13, 3) := by decide +kernel
theorem dX12_next_103 : decode cX12_next 103 = .ok (.aload_n 0, 1) := by decide +kernel
theorem dX12_next_104 : decode cX12_next 104 = .ok (.invokevirtual 112, 3) := by decide +kernel
theorem dX12_next_107 : decode cX12_next 107 = .ok (.invokestatic 123, 3) := by decide +kernel
theorem dX12_next_110 : decode cX12_next 110 = .ok (.ifCond .eq 92, 3) := by decide +kernel
theorem dX12_next_113 : decode cX12_next 113 = .ok (.aload_n 0, 1) := by decide +kernel
theorem dX12_next_114 : decode cX12_next 114 = .ok (.getfield 92, 3) := by decide +kernel
theorem dX12_next_117 : decode cX12_next 117 = .ok (.aload_n 0, 1) := by decide +kernel
theorem dX12_next_118 : decode cX12_next 118 = .ok (.getfield 105, 3) := by decide +kernel
theorem dX12_next_121 : decode cX12_next 121 = .ok (.isub, 1) := by decide +kernel
theorem dX12_next_122 : decode cX12_next 122 = .ok (.istore_n 3, 1) := by decide +kernel
theorem dX12_next_123 : decode cX12_next 123 = .ok (.iload_n 3, 1) := by decide +kernel
theorem dX12_next_124 : decode cX12_next 124 = .ok (.bipush 6, 2) := by decide +kernel
theorem dX12_next_126 : decode cX12_next 126 = .ok (.if_icmp .ge 14, 3) := by decide +kernel
theorem dX12_next_129 : decode cX12_next 129 = .ok (.aload_n 0, 1) := by decide +kernel
theorem dX12_next_130 : decode cX12_next 130 = .ok (.getfield 37, 3) := by decide +kernel
theorem dX12_next_133 : decode cX12_next 133 = .ok (.iload_n 3, 1) := by decide +kernel
theorem dX12_next_134 : decode cX12_next 134 = .ok (.aload_n 0, 1) := by decide +kernel
theorem dX12_next_135 : decode cX12_next 135 = .ok (.invokevirtual 112, 3) := by decide +kernel
theorem dX12_next_138 : decode cX12_next 138 = .ok (.i2b, 1) := by decide +kernel
theorem dX12_next_139 : decode cX12_next 139 = .ok (.bastore, 1) := by decide +kernel
theorem dX12_next_140 : decode cX12_next 140 = .ok (.iload_n 2, 1) := by decide +kernel
theorem dX12_next_141 : decode cX12_next 141 = .ok (.aload_n 0, 1) := by decide +kernel
theorem dX12_next_142 : decode cX12_next 142 = .ok (.invokevirtual 112, 3) := by decide +kernel
theorem dX12_next_145 : decode cX12_next 145 = .ok (.invokestatic 119, 3) := by decide +kernel
theorem dX12_next_148 : decode cX12_next 148 = .ok (.ifCond .eq 7, 3) := by decide +kernel
theorem dX12_next_151 : decode cX12_next 151 = .ok (.iconst 1, 1) := by decide +kernel
theorem dX12_next_152 : decode cX12_next 152 = .ok (.goto 4, 3) := by decide +kernel
theorem dX12_next_155 : decode cX12_next 155 = .ok (.iconst 0, 1) := by decide +kernel
theorem dX12_next_156 : decode cX12_next 156 = .ok (.iadd, 1) := by decide +kernel
theorem dX12_next_157 : decode cX12_next 157 = .ok (.istore_n 2, 1) := by decide +kernel
theorem dX12_next_158 : decode cX12_next 158 = .ok (.aload_n 0, 1) := by decide +kernel
theorem dX12_next_159 : decode cX12_next 159 = .ok (.iload_n 3, 1) := by decide +kernel
theorem dX12_next_160 : decode cX12_next 160 = .ok (.iconst 2, 1) := by decide +kernel
theorem dX12_next_161 : decode cX12_next 161 = .ok (.if_icmp .ge 21, 3) := by decide +kernel
theorem dX12_next_164 : decode cX12_next 164 = .ok (.bipush 10, 2) := by decide +kernel
theorem dX12_next_166 : decode cX12_next 166 = .ok (.aload_n 0, 1) := by decide +kernel
theorem dX12_next_167 : decode cX12_next 167 = .ok (.getfield 126, 3) := by decide +kernel
theorem dX12_next_170 : decode cX12_next 170 = .ok (.imul, 1) := by decide +kernel
theorem dX12_next_171 : decode cX12_next 171 = .ok (.aload_n 0, 1) := by decide +kernel
theorem dX12_next_172 : decode cX12_next 172 = .ok (.invokevirtual 112, 3) := by decide +kernel
theorem dX12_next_175 : decode cX12_next 175 = .ok (.iadd, 1) := by decide +kernel
theorem dX12_next_176 : decode cX12_next 176 = .ok (.bipush 48, 2) := by decide +kernel
theorem dX12_next_178 : decode cX12_next 178 = .ok (.isub, 1) := by decide +kernel
theorem dX12_next_179 : decode cX12_next 179 = .ok (.goto 7, 3) := by decide +kernel
theorem dX12_next_182 : decode cX12_next 182 = .ok (.aload_n 0, 1) := by decide +kernel
theorem dX12_next_183 : decode cX12_next 183 = .ok (.getfield 126, 3) := by decide +kernel
theorem dX12_next_186 : decode cX12_next 186 = .ok (.putfield 126, 3) := by decide +kernel
theorem dX12_next_189 : decode cX12_next 189 = .ok (.aload_n 0, 1) := by decide +kernel
theorem dX12_next_190 : decode cX12_next 190 = .ok (.dup, 1) := by decide +kernel
theorem dX12_next_191 : decode cX12_next 191 = .ok (.getfield 92, 3) := by decide +kernel
theorem dX12_next_194 : decode cX12_next 194 = .ok (.iconst 1, 1) := by decide +kernel
theorem dX12_next_195 : decode cX12_next 195 = .ok (.iadd, 1) := by decide +kernel
theorem dX12_next_196 : decode cX12_next 196 = .ok (.putfield 92, 3) := by decide +kernel
theorem dX12_next_199 : decode cX12_next 199 = .ok (.goto (-106), 3) := by decide +kernel
theorem dX12_next_202 : decode cX12_next 202 = .ok (.aload_n 0, 1) := by decide +kernel
theorem dX12_next_203 : decode cX12_next 203 = .ok (.aload_n 0, 1) := by decide +kernel
theorem dX12_next_204 : decode cX12_next 204 = .ok (.getfield 92, 3) := by decide +kernel
theorem dX12_next_207 : decode cX12_next 207 = .ok (.aload_n 0, 1) := by decide +kernel
theorem dX12_next_208 : decode cX12_next 208 = .ok (.getfield 105, 3) := by decide +kernel
theorem dX12_next_211 : decode cX12_next 211 = .ok (.isub, 1) := by decide +kernel
theorem dX12_next_212 : decode cX12_next 212 = .ok (.putfield 129, 3) := by decide +kernel
theorem dX12_next_215 : decode cX12_next 215 = .ok (.aload_n 0, 1) := by decide +kernel
theorem dX12_next_216 : decode cX12_next 216 = .ok (.iload_n 2, 1) := by decide +kernel
theorem dX12_next_217 : decode cX12_next 217 = .ok (.aload_n 0, 1) := by decide +kernel
theorem dX12_next_218 : decode cX12_next 218 = .ok (.getfield 129, 3) := by decide +kernel
theorem dX12_next_221 : decode cX12_next 221 = .ok (.if_icmp .ne 16, 3) := by decide +kernel
theorem dX12_next_224 : decode cX12_next 224 = .ok (.aload_n 0, 1) := by decide +kernel
theorem dX12_next_225 : decode cX12_next 225 = .ok (.getfield 129, 3) := by decide +kernel
theorem dX12_next_228 : decode cX12_next 228 = .ok (.bipush 7, 2) := by decide +kernel
theorem dX12_next_230 : decode cX12_next 230 = .ok (.if_icmp .ge 7, 3) := by decide +kernel
theorem dX12_next_233 : decode cX12_next 233 = .ok (.iconst 1, 1) := by decide +kernel
theorem dX12_next_234 : decode cX12_next 234 = .ok (.goto 20, 3) := by decide +kernel
theorem dX12_next_237 : decode cX12_next 237 = .ok (.iload_n 2, 1) := by decide +kernel
theorem dX12_next_238 : decode cX12_next 238 = .ok (.ifCond .ne 15, 3) := by decide +kernel
theorem dX12_next_241 : decode cX12_next 241 = .ok (.aload_n 0, 1) := by decide +kernel
theorem dX12_next_242 : decode cX12_next 242 = .ok (.getfield 129, 3) := by decide +kernel
theorem dX12_next_245 : decode cX12_next 245 = .ok (.iconst 3, 1) := by decide +kernel
theorem dX12_next_246 : decode cX12_next 246 = .ok (.if_icmp .ge 7, 3) := by decide +kernel
theorem dX12_next_249 : decode cX12_next 249 = .ok (.iconst 2, 1) := by decide +kernel
theorem dX12_next_250 : decode cX12_next 250 = .ok (.goto 4, 3) := by decide +kernel
theorem dX12_next_253 : decode cX12_next 253 = .ok (.iconst 4, 1) := by decide +kernel
theorem dX12_next_254 : decode cX12_next 254 = .ok (.putfield 116, 3) := by decide +kernel
theorem dX12_next_257 : decode cX12_next 257 = .ok (.return_, 1) := by decide +kernel
theorem dX12_peek_0 : decode cX12_peek 0 = .ok (.aload_n 0, 1) := by decide +kernel
theorem dX12_peek_1 : decode cX12_peek 1 = .ok (.getfield 92, 3) := by decide +kernel
theorem dX12_peek_4 : decode cX12_peek 4 = .ok (.aload_n 0, 1) := by decide +kernel
theorem dX12_peek_5 : decode cX12_peek 5 = .ok (.getfield 89, 3) := by decide +kernel
theorem dX12_peek_8 : decode cX12_peek 8 = .ok (.if_icmp .ge 19, 3) := by decide +kernel
theorem dX12_peek_11 : decode cX12_peek 11 = .ok (.aload_n 0, 1) := by decide +kernel
theorem dX12_peek_12 : decode cX12_peek 12 = .ok (.getfield 33, 3) := by decide +kernel
theorem dX12_peek_15 : decode cX12_peek 15 = .ok (.aload_n 0, 1) := by decide +kernel
theorem dX12_peek_16 : decode cX12_peek 16 = .ok (.getfield 92, 3) := by decide +kernel
theorem dX12_peek_19 : decode cX12_peek 19 = .ok (.baload, 1) := by decide +kernel
theorem dX12_peek_20 : decode cX12_peek 20 = .ok (.sipush 255, 3) := by decide +kernel
theorem dX12_peek_23 : decode cX12_peek 23 = .ok (.iand, 1) := by decide +kernel
theorem dX12_peek_24 : decode cX12_peek 24 = .ok (.goto 4, 3) := by decide +kernel
theorem dX12_peek_27 : decode cX12_peek 27 = .ok (.iconst (-1), 1) := by decide +kernel
theorem dX12_peek_28 : decode cX12_peek 28 = .ok (.ireturn, 1) := by decide +kernel
theorem tk_2 : (2 : Int32).toInt = 2 := by decide
theorem tk_3 : (3 : Int32).toInt = 3 := by decide
theorem tk_4 : (4 : Int32).toInt = 4 := by decide
theorem tk_5 : (5 : Int32).toInt = 5 := by decide
theorem tk_6 : (6 : Int32).toInt = 6 := by decide
theorem tk_7 : (7 : Int32).toInt = 7 := by decide
theorem tk_10 : (10 : Int32).toInt = 10 := by decide
theorem tk_32 : (32 : Int32).toInt = 32 := by decide
theorem tk_59 : (59 : Int32).toInt = 59 := by decide
set_option maxHeartbeats 4000000 in
set_option maxRecDepth 100000 in
theorem c_X12_peek (l : Launch) (D : va_G) (g : Nat → ClassId) (mm : Nat) (i_thrown : Int32) (m_s : Nat) (m_spare : Nat) (m_kept : Nat) (m_undone : Nat) (m_triedWay : Nat) (m_isKept : Nat) (i_undoMany : Int32) (m_tape : Nat) (i_length : Int32) (i_size : Int32) (i_p : Int32) (i_at : Int32) (i_token : Int32) (i_number : Int32) (i_letterMany : Int32) (i_fault : Int32) (i_faultAt : Int32) (m_letters : Nat) (i_isKnown : Int32) (m_choice : Nat) (m_row : Nat) (m_up : Nat) (m_low : Nat) (m_m : Nat) (m_bestUp : Nat) (m_bestLow : Nat) (m_replyUp : Nat) (m_replyLow : Nat) (m_worthUp : Nat) (m_worthLow : Nat) (m_bestWay : Nat) (i_seed : Int32) (m_told : Nat) (i_toldMany : Int32) (tf : Nat → Int32) (h_i_undoMany : 0 ≤ (i_undoMany : Int32).toInt ∧ (i_undoMany : Int32).toInt ≤ 8) (h_i_length : 0 ≤ (i_length : Int32).toInt ∧ (i_length : Int32).toInt ≤ 440) (h_i_size : 0 ≤ (i_size : Int32).toInt ∧ (i_size : Int32).toInt ≤ 440) (h_i_p : 0 ≤ (i_p : Int32).toInt ∧ (i_p : Int32).toInt ≤ 440) (h_i_at : 0 ≤ (i_at : Int32).toInt ∧ (i_at : Int32).toInt ≤ 440) (h_i_token : 0 ≤ (i_token : Int32).toInt ∧ (i_token : Int32).toInt ≤ 4) (h_i_number : 0 ≤ (i_number : Int32).toInt ∧ (i_number : Int32).toInt ≤ 814) (h_i_letterMany : (-440) ≤ (i_letterMany : Int32).toInt ∧ (i_letterMany : Int32).toInt ≤ 440) (h_i_faultAt : 0 ≤ (i_faultAt : Int32).toInt ∧ (i_faultAt : Int32).toInt ≤ 440) (h_i_isKnown : 0 ≤ (i_isKnown : Int32).toInt ∧ (i_isKnown : Int32).toInt ≤ 1) (h_i_toldMany : 0 ≤ (i_toldMany : Int32).toInt ∧ (i_toldMany : Int32).toInt ≤ 900) : Met l yX12_peek (.code yX12_peek cX12_peek 1 (some .int) :: wsL_law) ({ frames := 0, cells := 0, slots := 0, locals := 0 }) (va_Pc [.ref mm] (fun U => va_P D vwCl [(wO12 mm i_thrown m_s m_spare m_kept m_undone m_triedWay m_isKept i_undoMany m_tape i_length i_size i_p i_at i_token i_number i_letterMany i_fault i_faultAt m_letters i_isKnown m_choice m_row m_up m_low m_m m_bestUp m_bestLow m_replyUp m_replyLow m_worthUp m_worthLow m_bestWay i_seed m_told i_toldMany), (wI g m_tape 2 440 tf)] U.heap ∧ va_K D vwCl (TY g) U)) (vp_Si (fun r => ((-1) ≤ (r : Int32).toInt ∧ (r : Int32).toInt ≤ 255) ∧ ((r : Int32).toInt = pkb tf i_p i_size) ∧ (Hide (0 ≤ (r : Int32).toInt → (i_p : Int32).toInt < (i_size : Int32).toInt)))) 0 0 (fun _ => False) := by
  refine Met.ofW (cc := cX12_peek) (maxL := 1) (ret := (some .int)) (by decide) rfl ?_
  intro p e s m args below meth c s₁ B hml hv
  obtain ⟨ha, hP, hK⟩ := hv
  have hx := B.exec
  have hb := B.bytes
  have hr := B.returns
  have hts0 := atoms_spec (ws := (.code yX12_peek cX12_peek 1 (some .int) :: wsL_law)) B.pre
  have hts : ∀ w ∈ wsL_law, w.before args s = true := fun w h => hts0 w (List.mem_cons_of_mem _ h)
  have hown : s.vm.findClass RX12 = some m.cls := findClass_of_methodNamed B.named
  have hlocks := B.notSynchronized
  have hP : va_P D vwCl [(wO12 mm i_thrown m_s m_spare m_kept m_undone m_triedWay m_isKept i_undoMany m_tape i_length i_size i_p i_at i_token i_number i_letterMany i_fault i_faultAt m_letters i_isKnown m_choice m_row m_up m_low m_m m_bestUp m_bestLow m_replyUp m_replyLow m_worthUp m_worthLow m_bestWay i_seed m_told i_toldMany), (wI g m_tape 2 440 tf)] s.heap := hP
  refine W.eq (g2 := entryFrame m ([.ref mm] : List Value).toArray 1) (by rw [ha]) ?_
  have hl := lv_entry ([.ref mm]) (n := 1) (Nat.le_of_ble_eq_true rfl)
  rw [lg_entry_eq]
  generalize (lg_sl ([.ref mm]) ++ List.replicate (1 - (lg_sl ([.ref mm])).length) Slot.unset).toArray = ls at hl ⊢
  have hl : lv_has ls 1 [(0, .ref mm)] := hl
  refine lv_aload_n hx hb dX12_peek_0 rfl (lv_at hl 0 rfl) ?_
  refine va_get (D := D) (ci := 12) (v := .int i_p) (C := RX12) (T := TX12) (N := 35) hx hb hts inlX12 hown hK hP 0 rfl rfl 11 (by decide) (hts (Cond.fieldLink RX12 92 "ChanceRingsModel" "p" "I") qw_12) (fun _ h9 => h9) rfl dX12_peek_1 ?_
  refine lv_aload_n hx hb dX12_peek_4 rfl (lv_at hl 0 rfl) ?_
  refine va_get (D := D) (ci := 12) (v := .int i_size) (C := RX12) (T := TX12) (N := 35) hx hb hts inlX12 hown hK hP 0 rfl rfl 10 (by decide) (hts (Cond.fieldLink RX12 89 "ChanceRingsModel" "size" "I") qw_11) (fun _ h9 => h9) rfl dX12_peek_5 ?_
  refine lv_icmp_ge (tgt := 27) hx hb dX12_peek_8 (by decide) (fun c_62 => ?_) (fun c_62 => ?_)
  · skip
    have c_62_i := Int32.le_iff_toInt_le.mp c_62
    refine lv_iconst (v := (-1)) hx hb dX12_peek_27 (by decide) ?_
    exact W.iret (v := (-1)) hx hb hr (fun t ht hW => ⟨(-1), rfl, ⟨(⟨by decide, by decide⟩ : (-1) ≤ ((-1) : Int32).toInt ∧ ((-1) : Int32).toInt ≤ 255), (tk_m1.trans (pkb_out (by (first | (clear h_i_undoMany h_i_length h_i_size h_i_p h_i_at h_i_token h_i_number h_i_letterMany h_i_faultAt h_i_isKnown h_i_toldMany c_62_i; omega) | omega)))), (fun h9 => (by have z_m1 := tk_m1; have z_0 := tk_0; have z_1 := tk_1; (first | (clear h_i_undoMany h_i_length h_i_size h_i_p h_i_at h_i_token h_i_number h_i_letterMany h_i_faultAt h_i_isKnown h_i_toldMany c_62_i; omega) | omega)))⟩, ht⟩) (fun _ h => nomatch h) dX12_peek_28
  · skip
    have c_62_i := Int32.lt_iff_toInt_lt.mp (Int32.not_le.mp c_62)
    have h_63 : 0 ≤ (i_p : Int32).toInt ∧ (i_p : Int32).toInt ≤ 439 := nr_lt_l h_i_p h_i_size c_62_i (by decide) (by decide)
    have h_64 : 1 ≤ (i_size : Int32).toInt ∧ (i_size : Int32).toInt ≤ 440 := nr_lt_r h_i_p h_i_size c_62_i (by decide) (by decide)
    refine lv_aload_n hx hb dX12_peek_11 rfl (lv_at hl 0 rfl) ?_
    refine va_get (D := D) (ci := 12) (v := .ref m_tape) (C := RX12) (T := TX12) (N := 35) hx hb hts inlX12 hown hK hP 0 rfl rfl 8 (by decide) (hts (Cond.fieldLink RX12 33 "ChanceRingsModel" "tape" "[B") qw_5) (fun _ h9 => h9) rfl dX12_peek_12 ?_
    refine lv_aload_n hx hb dX12_peek_15 rfl (lv_at hl 0 rfl) ?_
    refine va_get (D := D) (ci := 12) (v := .int i_p) (C := RX12) (T := TX12) (N := 35) hx hb hts inlX12 hown hK hP 0 rfl rfl 11 (by decide) (hts (Cond.fieldLink RX12 92 "ChanceRingsModel" "p" "I") qw_12) (fun _ h9 => h9) rfl dX12_peek_16 ?_
    refine va_bald hx hb hK hP 1 2 rfl rfl (tr_in h_63 (by decide) (by decide)) dX12_peek_19 ?_
    refine lv_topi (fun v_65 v_65_e => ?_)
    refine lv_sipush (v := 255) hx hb dX12_peek_20 (by decide) ?_
    refine lv_iand hx hb dX12_peek_23 ?_
    refine lv_topi (fun v_66 v_66_e => ?_)
    have h_v_66 : 0 ≤ (v_66 : Int32).toInt ∧ (v_66 : Int32).toInt ≤ 255 := by rw [v_66_e]; exact tr_and255 _
    refine lv_goto (tgt := 28) hx hb dX12_peek_24 (by decide) ?_
    exact W.iret (v := v_66) hx hb hr (fun t ht hW => ⟨v_66, rfl, ⟨(tr_w h_v_66 (by decide) (by decide)), (by rw [v_66_e, v_65_e]; exact pkb_in (by (first | (clear h_i_undoMany h_i_length h_i_size h_i_p h_i_at h_i_token h_i_number h_i_letterMany h_i_faultAt h_i_isKnown h_i_toldMany c_62_i h_63 h_64; omega) | omega))), (fun h9 => (by have z_0 := tk_0; have z_1 := tk_1; (first | (clear h_i_undoMany h_i_length h_i_size h_i_p h_i_at h_i_token h_i_number h_i_letterMany h_i_faultAt h_i_isKnown h_i_toldMany c_62_i h_63 h_64; omega) | omega)))⟩, ht⟩) (fun _ h => nomatch h) dX12_peek_28
set_option maxHeartbeats 4000000 in
set_option maxRecDepth 100000 in
theorem c_X12_bad (l : Launch) (D : va_G) (g : Nat → ClassId) (sz : Nat) (mm : Nat) (p0 : Int32) (p1 : Int32) (i_thrown : Int32) (m_s : Nat) (m_spare : Nat) (m_kept : Nat) (m_undone : Nat) (m_triedWay : Nat) (m_isKept : Nat) (i_undoMany : Int32) (m_tape : Nat) (i_length : Int32) (i_size : Int32) (i_p : Int32) (i_at : Int32) (i_token : Int32) (i_number : Int32) (i_letterMany : Int32) (i_fault : Int32) (i_faultAt : Int32) (m_letters : Nat) (i_isKnown : Int32) (m_choice : Nat) (m_row : Nat) (m_up : Nat) (m_low : Nat) (m_m : Nat) (m_bestUp : Nat) (m_bestLow : Nat) (m_replyUp : Nat) (m_replyLow : Nat) (m_worthUp : Nat) (m_worthLow : Nat) (m_bestWay : Nat) (i_seed : Int32) (m_told : Nat) (i_toldMany : Int32) (h_p1 : 0 ≤ (p1 : Int32).toInt ∧ (p1 : Int32).toInt ≤ 440) (h_i_undoMany : 0 ≤ (i_undoMany : Int32).toInt ∧ (i_undoMany : Int32).toInt ≤ 8) (h_i_length : 0 ≤ (i_length : Int32).toInt ∧ (i_length : Int32).toInt ≤ 440) (h_i_size : 0 ≤ (i_size : Int32).toInt ∧ (i_size : Int32).toInt ≤ 440) (h_i_p : 0 ≤ (i_p : Int32).toInt ∧ (i_p : Int32).toInt ≤ 440) (h_i_at : 0 ≤ (i_at : Int32).toInt ∧ (i_at : Int32).toInt ≤ 440) (h_i_token : 0 ≤ (i_token : Int32).toInt ∧ (i_token : Int32).toInt ≤ 4) (h_i_number : 0 ≤ (i_number : Int32).toInt ∧ (i_number : Int32).toInt ≤ 814) (h_i_letterMany : (-440) ≤ (i_letterMany : Int32).toInt ∧ (i_letterMany : Int32).toInt ≤ 440) (h_i_faultAt : 0 ≤ (i_faultAt : Int32).toInt ∧ (i_faultAt : Int32).toInt ≤ 440) (h_i_isKnown : 0 ≤ (i_isKnown : Int32).toInt ∧ (i_isKnown : Int32).toInt ≤ 1) (h_i_toldMany : 0 ≤ (i_toldMany : Int32).toInt ∧ (i_toldMany : Int32).toInt ≤ 900) : Met l yX12_bad (.code yX12_bad cX12_bad 3 (some .boolean) :: wsL_law) ({ frames := 0, cells := 0, slots := 0, locals := 0 }) (va_Pc [.ref mm, .int p0, .int p1] (fun U => U.heap.size = sz ∧ va_P D vwCl [(wO12 mm i_thrown m_s m_spare m_kept m_undone m_triedWay m_isKept i_undoMany m_tape i_length i_size i_p i_at i_token i_number i_letterMany i_fault i_faultAt m_letters i_isKnown m_choice m_row m_up m_low m_m m_bestUp m_bestLow m_replyUp m_replyLow m_worthUp m_worthLow m_bestWay i_seed m_told i_toldMany)] U.heap ∧ va_K D vwCl (TY g) U ∧ va_D (fun _ => True) [(wO12 mm i_thrown m_s m_spare m_kept m_undone m_triedWay m_isKept i_undoMany m_tape i_length i_size i_p i_at i_token i_number i_letterMany i_fault i_faultAt m_letters i_isKnown m_choice m_row m_up m_low m_m m_bestUp m_bestLow m_replyUp m_replyLow m_worthUp m_worthLow m_bestWay i_seed m_told i_toldMany)])) (va_Qi (fun r (_ : Unit) => 0 ≤ (r : Int32).toInt ∧ (r : Int32).toInt ≤ 0) (fun _ t => va_P D vwCl [(wO12 mm i_thrown m_s m_spare m_kept m_undone m_triedWay m_isKept i_undoMany m_tape i_length i_size i_p i_at i_token i_number i_letterMany p0 p1 m_letters i_isKnown m_choice m_row m_up m_low m_m m_bestUp m_bestLow m_replyUp m_replyLow m_worthUp m_worthLow m_bestWay i_seed m_told i_toldMany)] t.heap ∧ va_D (va_A [(wO12 mm i_thrown m_s m_spare m_kept m_undone m_triedWay m_isKept i_undoMany m_tape i_length i_size i_p i_at i_token i_number i_letterMany i_fault i_faultAt m_letters i_isKnown m_choice m_row m_up m_low m_m m_bestUp m_bestLow m_replyUp m_replyLow m_worthUp m_worthLow m_bestWay i_seed m_told i_toldMany)] sz) [(wO12 mm i_thrown m_s m_spare m_kept m_undone m_triedWay m_isKept i_undoMany m_tape i_length i_size i_p i_at i_token i_number i_letterMany p0 p1 m_letters i_isKnown m_choice m_row m_up m_low m_m m_bestUp m_bestLow m_replyUp m_replyLow m_worthUp m_worthLow m_bestWay i_seed m_told i_toldMany)]) (va_A [(wO12 mm i_thrown m_s m_spare m_kept m_undone m_triedWay m_isKept i_undoMany m_tape i_length i_size i_p i_at i_token i_number i_letterMany i_fault i_faultAt m_letters i_isKnown m_choice m_row m_up m_low m_m m_bestUp m_bestLow m_replyUp m_replyLow m_worthUp m_worthLow m_bestWay i_seed m_told i_toldMany)] sz)) 0 0 (va_A [(wO12 mm i_thrown m_s m_spare m_kept m_undone m_triedWay m_isKept i_undoMany m_tape i_length i_size i_p i_at i_token i_number i_letterMany i_fault i_faultAt m_letters i_isKnown m_choice m_row m_up m_low m_m m_bestUp m_bestLow m_replyUp m_replyLow m_worthUp m_worthLow m_bestWay i_seed m_told i_toldMany)] sz) := by
  refine Met.ofW (cc := cX12_bad) (maxL := 3) (ret := (some .boolean)) (by decide) rfl ?_
  intro p e s m args below meth c s₁ B hml hv
  obtain ⟨ha, hsz, hP, hK, hD0⟩ := hv
  have hx := B.exec
  have hb := B.bytes
  have hr := B.returns
  have hts0 := atoms_spec (ws := (.code yX12_bad cX12_bad 3 (some .boolean) :: wsL_law)) B.pre
  have hts : ∀ w ∈ wsL_law, w.before args s = true := fun w h => hts0 w (List.mem_cons_of_mem _ h)
  have hown : s.vm.findClass RX12 = some m.cls := findClass_of_methodNamed B.named
  have hlocks := B.notSynchronized
  subst hsz
  have hD := hD0.self (sz := s.heap.size)
  generalize hAe : va_A [(wO12 mm i_thrown m_s m_spare m_kept m_undone m_triedWay m_isKept i_undoMany m_tape i_length i_size i_p i_at i_token i_number i_letterMany i_fault i_faultAt m_letters i_isKnown m_choice m_row m_up m_low m_m m_bestUp m_bestLow m_replyUp m_replyLow m_worthUp m_worthLow m_bestWay i_seed m_told i_toldMany)] s.heap.size = A at hD ⊢
  have hA : ∀ q : Nat, s.heap.size ≤ q → A q := fun q h => by rw [← hAe]; exact Or.inr h
  have hS : va_S A s.heap s.heap [] := va_S.rf
  have hP : va_P D vwCl [(wO12 mm i_thrown m_s m_spare m_kept m_undone m_triedWay m_isKept i_undoMany m_tape i_length i_size i_p i_at i_token i_number i_letterMany i_fault i_faultAt m_letters i_isKnown m_choice m_row m_up m_low m_m m_bestUp m_bestLow m_replyUp m_replyLow m_worthUp m_worthLow m_bestWay i_seed m_told i_toldMany)] s.heap := hP
  refine W.eq (g2 := entryFrame m ([.ref mm, .int p0, .int p1] : List Value).toArray 3) (by rw [ha]) ?_
  have hl := lv_entry ([.ref mm, .int p0, .int p1]) (n := 3) (Nat.le_of_ble_eq_true rfl)
  rw [lg_entry_eq]
  generalize (lg_sl ([.ref mm, .int p0, .int p1]) ++ List.replicate (3 - (lg_sl ([.ref mm, .int p0, .int p1])).length) Slot.unset).toArray = ls at hl ⊢
  have hl : lv_has ls 3 [(0, .ref mm), (1, .int p0), (2, .int p1)] := hl
  refine lv_aload_n hx hb dX12_bad_0 rfl (lv_at hl 0 rfl) ?_
  refine lv_iload_n hx hb dX12_bad_1 rfl (lv_at hl 1 rfl) ?_
  refine va_put (D := D) (ci := 12) (v := .int p0) (ty := .int) (C := RX12) (T := TX12) (N := 35) hx hb hts inlX12 tyX12 tyX12_ok nmX12 hown hK hP hD hS 0 rfl rfl 16 (by decide) (hts (Cond.fieldLink RX12 99 "ChanceRingsModel" "fault" "I") qw_13) (fun _ h9 => h9) rfl (by decide +kernel) rfl rfl (Nat.le_of_ble_eq_true rfl) dX12_bad_2 (fun H locs hP hD hS => ?_)
  have hP : va_P D vwCl [(wO12 mm i_thrown m_s m_spare m_kept m_undone m_triedWay m_isKept i_undoMany m_tape i_length i_size i_p i_at i_token i_number i_letterMany p0 i_faultAt m_letters i_isKnown m_choice m_row m_up m_low m_m m_bestUp m_bestLow m_replyUp m_replyLow m_worthUp m_worthLow m_bestWay i_seed m_told i_toldMany)] H := hP
  have hD : va_D A [(wO12 mm i_thrown m_s m_spare m_kept m_undone m_triedWay m_isKept i_undoMany m_tape i_length i_size i_p i_at i_token i_number i_letterMany p0 i_faultAt m_letters i_isKnown m_choice m_row m_up m_low m_m m_bestUp m_bestLow m_replyUp m_replyLow m_worthUp m_worthLow m_bestWay i_seed m_told i_toldMany)] := hD
  refine lv_aload_n hx hb dX12_bad_5 rfl (lv_at hl 0 rfl) ?_
  refine lv_iload_n hx hb dX12_bad_6 rfl (lv_at hl 2 rfl) ?_
  refine va_put (D := D) (ci := 12) (v := .int p1) (ty := .int) (C := RX12) (T := TX12) (N := 35) hx hb hts inlX12 tyX12 tyX12_ok nmX12 hown hK hP hD hS 0 rfl rfl 17 (by decide) (hts (Cond.fieldLink RX12 102 "ChanceRingsModel" "faultAt" "I") qw_14) (fun _ h9 => h9) rfl (by decide +kernel) rfl rfl (Nat.le_of_ble_eq_true rfl) dX12_bad_7 (fun H locs hP hD hS => ?_)
  have hP : va_P D vwCl [(wO12 mm i_thrown m_s m_spare m_kept m_undone m_triedWay m_isKept i_undoMany m_tape i_length i_size i_p i_at i_token i_number i_letterMany p0 p1 m_letters i_isKnown m_choice m_row m_up m_low m_m m_bestUp m_bestLow m_replyUp m_replyLow m_worthUp m_worthLow m_bestWay i_seed m_told i_toldMany)] H := hP
  have hD : va_D A [(wO12 mm i_thrown m_s m_spare m_kept m_undone m_triedWay m_isKept i_undoMany m_tape i_length i_size i_p i_at i_token i_number i_letterMany p0 p1 m_letters i_isKnown m_choice m_row m_up m_low m_m m_bestUp m_bestLow m_replyUp m_replyLow m_worthUp m_worthLow m_bestWay i_seed m_told i_toldMany)] := hD
  refine lv_iconst (v := 0) hx hb dX12_bad_10 (by decide) ?_
  have hP9 := hP.sub (ws' := [(wO12 mm i_thrown m_s m_spare m_kept m_undone m_triedWay m_isKept i_undoMany m_tape i_length i_size i_p i_at i_token i_number i_letterMany p0 p1 m_letters i_isKnown m_choice m_row m_up m_low m_m m_bestUp m_bestLow m_replyUp m_replyLow m_worthUp m_worthLow m_bestWay i_seed m_told i_toldMany)]) [0] rfl
  have hD9 := hD.sub (ws' := [(wO12 mm i_thrown m_s m_spare m_kept m_undone m_triedWay m_isKept i_undoMany m_tape i_length i_size i_p i_at i_token i_number i_letterMany p0 p1 m_letters i_isKnown m_choice m_row m_up m_low m_m m_bestUp m_bestLow m_replyUp m_replyLow m_worthUp m_worthLow m_bestWay i_seed m_told i_toldMany)]) [0] (by decide) rfl
  exact W.zret (v := 0) hx hb hr (by decide) (fun t ht hW => ⟨⟨0, (), rfl, (⟨by decide, by decide⟩ : 0 ≤ (0 : Int32).toInt ∧ (0 : Int32).toInt ≤ 0), by rw [ht]; exact hP9, hD9⟩, hS.F ht⟩) hS.2.2 dX12_bad_11
set_option maxHeartbeats 4000000 in
set_option maxRecDepth 100000 in
theorem c_X12_badHere (l : Launch) (D : va_G) (g : Nat → ClassId) (sz : Nat) (mm : Nat) (p0 : Int32) (i_thrown : Int32) (m_s : Nat) (m_spare : Nat) (m_kept : Nat) (m_undone : Nat) (m_triedWay : Nat) (m_isKept : Nat) (i_undoMany : Int32) (m_tape : Nat) (i_length : Int32) (i_size : Int32) (i_p : Int32) (i_at : Int32) (i_token : Int32) (i_number : Int32) (i_letterMany : Int32) (i_fault : Int32) (i_faultAt : Int32) (m_letters : Nat) (i_isKnown : Int32) (m_choice : Nat) (m_row : Nat) (m_up : Nat) (m_low : Nat) (m_m : Nat) (m_bestUp : Nat) (m_bestLow : Nat) (m_replyUp : Nat) (m_replyLow : Nat) (m_worthUp : Nat) (m_worthLow : Nat) (m_bestWay : Nat) (i_seed : Int32) (m_told : Nat) (i_toldMany : Int32) (h_i_undoMany : 0 ≤ (i_undoMany : Int32).toInt ∧ (i_undoMany : Int32).toInt ≤ 8) (h_i_length : 0 ≤ (i_length : Int32).toInt ∧ (i_length : Int32).toInt ≤ 440) (h_i_size : 0 ≤ (i_size : Int32).toInt ∧ (i_size : Int32).toInt ≤ 440) (h_i_p : 0 ≤ (i_p : Int32).toInt ∧ (i_p : Int32).toInt ≤ 440) (h_i_at : 0 ≤ (i_at : Int32).toInt ∧ (i_at : Int32).toInt ≤ 440) (h_i_token : 0 ≤ (i_token : Int32).toInt ∧ (i_token : Int32).toInt ≤ 4) (h_i_number : 0 ≤ (i_number : Int32).toInt ∧ (i_number : Int32).toInt ≤ 814) (h_i_letterMany : (-440) ≤ (i_letterMany : Int32).toInt ∧ (i_letterMany : Int32).toInt ≤ 440) (h_i_faultAt : 0 ≤ (i_faultAt : Int32).toInt ∧ (i_faultAt : Int32).toInt ≤ 440) (h_i_isKnown : 0 ≤ (i_isKnown : Int32).toInt ∧ (i_isKnown : Int32).toInt ≤ 1) (h_i_toldMany : 0 ≤ (i_toldMany : Int32).toInt ∧ (i_toldMany : Int32).toInt ≤ 900) : Met l yX12_badHere (.code yX12_badHere cX12_badHere 2 (some .boolean) :: wsL_law) ({ frames := 1, cells := 0, slots := 0, locals := 22 }) (va_Pc [.ref mm, .int p0] (fun U => U.heap.size = sz ∧ va_P D vwCl [(wO12 mm i_thrown m_s m_spare m_kept m_undone m_triedWay m_isKept i_undoMany m_tape i_length i_size i_p i_at i_token i_number i_letterMany i_fault i_faultAt m_letters i_isKnown m_choice m_row m_up m_low m_m m_bestUp m_bestLow m_replyUp m_replyLow m_worthUp m_worthLow m_bestWay i_seed m_told i_toldMany)] U.heap ∧ va_K D vwCl (TY g) U ∧ va_D (fun _ => True) [(wO12 mm i_thrown m_s m_spare m_kept m_undone m_triedWay m_isKept i_undoMany m_tape i_length i_size i_p i_at i_token i_number i_letterMany i_fault i_faultAt m_letters i_isKnown m_choice m_row m_up m_low m_m m_bestUp m_bestLow m_replyUp m_replyLow m_worthUp m_worthLow m_bestWay i_seed m_told i_toldMany)])) (va_Qi (fun r (_ : Unit) => 0 ≤ (r : Int32).toInt ∧ (r : Int32).toInt ≤ 0) (fun _ t => va_P D vwCl [(wO12 mm i_thrown m_s m_spare m_kept m_undone m_triedWay m_isKept i_undoMany m_tape i_length i_size i_p i_at i_token i_number i_letterMany p0 i_at m_letters i_isKnown m_choice m_row m_up m_low m_m m_bestUp m_bestLow m_replyUp m_replyLow m_worthUp m_worthLow m_bestWay i_seed m_told i_toldMany)] t.heap ∧ va_D (va_A [(wO12 mm i_thrown m_s m_spare m_kept m_undone m_triedWay m_isKept i_undoMany m_tape i_length i_size i_p i_at i_token i_number i_letterMany i_fault i_faultAt m_letters i_isKnown m_choice m_row m_up m_low m_m m_bestUp m_bestLow m_replyUp m_replyLow m_worthUp m_worthLow m_bestWay i_seed m_told i_toldMany)] sz) [(wO12 mm i_thrown m_s m_spare m_kept m_undone m_triedWay m_isKept i_undoMany m_tape i_length i_size i_p i_at i_token i_number i_letterMany p0 i_at m_letters i_isKnown m_choice m_row m_up m_low m_m m_bestUp m_bestLow m_replyUp m_replyLow m_worthUp m_worthLow m_bestWay i_seed m_told i_toldMany)]) (va_A [(wO12 mm i_thrown m_s m_spare m_kept m_undone m_triedWay m_isKept i_undoMany m_tape i_length i_size i_p i_at i_token i_number i_letterMany i_fault i_faultAt m_letters i_isKnown m_choice m_row m_up m_low m_m m_bestUp m_bestLow m_replyUp m_replyLow m_worthUp m_worthLow m_bestWay i_seed m_told i_toldMany)] sz)) 0 0 (va_A [(wO12 mm i_thrown m_s m_spare m_kept m_undone m_triedWay m_isKept i_undoMany m_tape i_length i_size i_p i_at i_token i_number i_letterMany i_fault i_faultAt m_letters i_isKnown m_choice m_row m_up m_low m_m m_bestUp m_bestLow m_replyUp m_replyLow m_worthUp m_worthLow m_bestWay i_seed m_told i_toldMany)] sz) := by
  refine Met.ofW (cc := cX12_badHere) (maxL := 2) (ret := (some .boolean)) (by decide) rfl ?_
  intro p e s m args below meth c s₁ B hml hv
  obtain ⟨ha, hsz, hP, hK, hD0⟩ := hv
  have hx := B.exec
  have hb := B.bytes
  have hr := B.returns
  have hts0 := atoms_spec (ws := (.code yX12_badHere cX12_badHere 2 (some .boolean) :: wsL_law)) B.pre
  have hts : ∀ w ∈ wsL_law, w.before args s = true := fun w h => hts0 w (List.mem_cons_of_mem _ h)
  have hown : s.vm.findClass RX12 = some m.cls := findClass_of_methodNamed B.named
  have hlocks := B.notSynchronized
  subst hsz
  have hD := hD0.self (sz := s.heap.size)
  generalize hAe : va_A [(wO12 mm i_thrown m_s m_spare m_kept m_undone m_triedWay m_isKept i_undoMany m_tape i_length i_size i_p i_at i_token i_number i_letterMany i_fault i_faultAt m_letters i_isKnown m_choice m_row m_up m_low m_m m_bestUp m_bestLow m_replyUp m_replyLow m_worthUp m_worthLow m_bestWay i_seed m_told i_toldMany)] s.heap.size = A at hD ⊢
  have hA : ∀ q : Nat, s.heap.size ≤ q → A q := fun q h => by rw [← hAe]; exact Or.inr h
  have hS : va_S A s.heap s.heap [] := va_S.rf
  have hP : va_P D vwCl [(wO12 mm i_thrown m_s m_spare m_kept m_undone m_triedWay m_isKept i_undoMany m_tape i_length i_size i_p i_at i_token i_number i_letterMany i_fault i_faultAt m_letters i_isKnown m_choice m_row m_up m_low m_m m_bestUp m_bestLow m_replyUp m_replyLow m_worthUp m_worthLow m_bestWay i_seed m_told i_toldMany)] s.heap := hP
  refine W.eq (g2 := entryFrame m ([.ref mm, .int p0] : List Value).toArray 2) (by rw [ha]) ?_
  have hl := lv_entry ([.ref mm, .int p0]) (n := 2) (Nat.le_of_ble_eq_true rfl)
  rw [lg_entry_eq]
  generalize (lg_sl ([.ref mm, .int p0]) ++ List.replicate (2 - (lg_sl ([.ref mm, .int p0])).length) Slot.unset).toArray = ls at hl ⊢
  have hl : lv_has ls 2 [(0, .ref mm), (1, .int p0)] := hl
  refine lv_aload_n hx hb dX12_badHere_0 rfl (lv_at hl 0 rfl) ?_
  refine lv_iload_n hx hb dX12_badHere_1 rfl (lv_at hl 1 rfl) ?_
  refine lv_aload_n hx hb dX12_badHere_2 rfl (lv_at hl 0 rfl) ?_
  refine va_get (D := D) (ci := 12) (v := .int i_at) (C := RX12) (T := TX12) (N := 35) hx hb hts inlX12 hown hK hP 0 rfl rfl 12 (by decide) (hts (Cond.fieldLink RX12 105 "ChanceRingsModel" "at" "I") qw_15) (fun _ h9 => h9) rfl dX12_badHere_3 ?_
  have hPc := hP.sub (ws' := [(wO12 mm i_thrown m_s m_spare m_kept m_undone m_triedWay m_isKept i_undoMany m_tape i_length i_size i_p i_at i_token i_number i_letterMany i_fault i_faultAt m_letters i_isKnown m_choice m_row m_up m_low m_m m_bestUp m_bestLow m_replyUp m_replyLow m_worthUp m_worthLow m_bestWay i_seed m_told i_toldMany)]) [0] rfl
  have hDc := hD.sub (ws' := [(wO12 mm i_thrown m_s m_spare m_kept m_undone m_triedWay m_isKept i_undoMany m_tape i_length i_size i_p i_at i_token i_number i_letterMany i_fault i_faultAt m_letters i_isKnown m_choice m_row m_up m_low m_m m_bestUp m_bestLow m_replyUp m_replyLow m_worthUp m_worthLow m_bestWay i_seed m_told i_toldMany)]) [0] (by decide) rfl
  have hFc := va_free (wc := [(wO12 mm i_thrown m_s m_spare m_kept m_undone m_triedWay m_isKept i_undoMany m_tape i_length i_size i_p i_at i_token i_number i_letterMany i_fault i_faultAt m_letters i_isKnown m_choice m_row m_up m_low m_m m_bestUp m_bestLow m_replyUp m_replyLow m_worthUp m_worthLow m_bestWay i_seed m_told i_toldMany)]) hD hS hA [0] rfl
  refine va_calli (va_runV (As := [.int p0, .int i_at]) (rest := []) ⟨hx, hb, hml, hown, hts⟩ (c_X12_bad l D g s.heap.size mm p0 i_at i_thrown m_s m_spare m_kept m_undone m_triedWay m_isKept i_undoMany m_tape i_length i_size i_p i_at i_token i_number i_letterMany i_fault i_faultAt m_letters i_isKnown m_choice m_row m_up m_low m_m m_bestUp m_bestLow m_replyUp m_replyLow m_worthUp m_worthLow m_bestWay i_seed m_told i_toldMany (tr_w h_i_at (by decide) (by decide)) (tr_w h_i_undoMany (by decide) (by decide)) (tr_w h_i_length (by decide) (by decide)) (tr_w h_i_size (by decide) (by decide)) (tr_w h_i_p (by decide) (by decide)) (tr_w h_i_at (by decide) (by decide)) (tr_w h_i_token (by decide) (by decide)) (tr_w h_i_number (by decide) (by decide)) (tr_w h_i_letterMany (by decide) (by decide)) (tr_w h_i_faultAt (by decide) (by decide)) (tr_w h_i_isKnown (by decide) (by decide)) (tr_w h_i_toldMany (by decide) (by decide))) (cwV 2 hts (tz_gV qw_16 qw_17 qw_18 qw_3 qw_19) rfl rfl rfl (by decide +kernel) ⟨Nat.le_of_ble_eq_true rfl, Nat.le_of_ble_eq_true rfl⟩) ⟨tz_blQ, va_recv hK hPc (ci := 12) (q0 := 0) rfl rfl, tz_preQ hPc hK hDc⟩ rfl rfl hl.1 rfl (lv_room (Nat.le_of_ble_eq_true rfl)) dX12_badHere_6 ⟨Nat.le_of_ble_eq_true rfl, Nat.le_of_ble_eq_true rfl⟩) hS (fun q _ h => hFc q h) hFc (fun r_67 u t H1 locs ht hvm hw hB hz1 hk1 hS => ?_)
  obtain ⟨hP1, hD1⟩ := hB
  rw [ht] at hP1
  obtain ⟨hP, hD⟩ := va_join (wr := []) (w1 := [(wO12 mm i_thrown m_s m_spare m_kept m_undone m_triedWay m_isKept i_undoMany m_tape i_length i_size i_p i_at i_token i_number i_letterMany p0 i_at m_letters i_isKnown m_choice m_row m_up m_low m_m m_bestUp m_bestLow m_replyUp m_replyLow m_worthUp m_worthLow m_bestWay i_seed m_told i_toldMany)]) hP hD [0] [] rfl rfl (by decide) (by decide) hk1 hFc hP1 hD1
  generalize H1 = H at hP hS ⊢
  have hP : va_P D vwCl [(wO12 mm i_thrown m_s m_spare m_kept m_undone m_triedWay m_isKept i_undoMany m_tape i_length i_size i_p i_at i_token i_number i_letterMany p0 i_at m_letters i_isKnown m_choice m_row m_up m_low m_m m_bestUp m_bestLow m_replyUp m_replyLow m_worthUp m_worthLow m_bestWay i_seed m_told i_toldMany)] H := hP
  have hD : va_D A [(wO12 mm i_thrown m_s m_spare m_kept m_undone m_triedWay m_isKept i_undoMany m_tape i_length i_size i_p i_at i_token i_number i_letterMany p0 i_at m_letters i_isKnown m_choice m_row m_up m_low m_m m_bestUp m_bestLow m_replyUp m_replyLow m_worthUp m_worthLow m_bestWay i_seed m_told i_toldMany)] := hD
  have hw_68 : 0 ≤ (r_67 : Int32).toInt ∧ (r_67 : Int32).toInt ≤ 0 := hw
  have hP9 := hP.sub (ws' := [(wO12 mm i_thrown m_s m_spare m_kept m_undone m_triedWay m_isKept i_undoMany m_tape i_length i_size i_p i_at i_token i_number i_letterMany p0 i_at m_letters i_isKnown m_choice m_row m_up m_low m_m m_bestUp m_bestLow m_replyUp m_replyLow m_worthUp m_worthLow m_bestWay i_seed m_told i_toldMany)]) [0] rfl
  have hD9 := hD.sub (ws' := [(wO12 mm i_thrown m_s m_spare m_kept m_undone m_triedWay m_isKept i_undoMany m_tape i_length i_size i_p i_at i_token i_number i_letterMany p0 i_at m_letters i_isKnown m_choice m_row m_up m_low m_m m_bestUp m_bestLow m_replyUp m_replyLow m_worthUp m_worthLow m_bestWay i_seed m_told i_toldMany)]) [0] (by decide) rfl
  exact W.zret (v := r_67) hx hb hr (tr_z (tr_w hw_68 (by decide) (by decide))) (fun t ht hW => ⟨⟨r_67, (), rfl, (tr_w hw_68 (by decide) (by decide)), by rw [ht]; exact hP9, hD9⟩, hS.F ht⟩) hS.2.2 dX12_badHere_9
theorem i2b_twice (x : Int32) : x.toInt8.toInt32.toInt8.toInt32 = x.toInt8.toInt32 := by
  apply Int32.toInt_inj.mp
  rw [Int8.toInt_toInt32, Int32.toInt_toInt8, Int8.toInt_toInt32]
  have h1 := Int8.le_toInt x.toInt8
  have h2 := Int8.toInt_le x.toInt8
  have e1 : Int8.maxValue.toInt = 127 := by decide
  have e2 : Int8.minValue.toInt = -128 := by decide
  exact Int.bmod_eq_of_le (by omega) (by omega)
