theorem qw_217 : Cond.methodLink RX12 279 yX12_may ∈ wsL_law := tseg_7 (by decide +kernel) (List.mem_of_getElem? (i := 34) (by decide +kernel))
theorem qw_218 : Cond.instanceMethod yX12_may ∈ wsL_law := tseg_7 (by decide +kernel) (List.mem_of_getElem? (i := 36) (by decide +kernel))
theorem qw_219 : Cond.selects RX12 yX12_may yX12_may ∈ wsL_law := List.mem_filter.mpr ⟨List.mem_append_left _ (List.mem_of_getElem? (i := 89) (by decide +kernel)), by decide +kernel⟩
theorem qw_220 : Cond.code yX12_may cX12_may 3 (some .boolean) ∈ wsL_law := tseg_7 (by decide +kernel) (List.mem_of_getElem? (i := 37) (by decide +kernel))
theorem qw_221 : Cond.methodLink RX12 288 yX12_all ∈ wsL_law := tseg_7 (by decide +kernel) (List.mem_of_getElem? (i := 42) (by decide +kernel))
theorem qw_222 : Cond.instanceMethod yX12_all ∈ wsL_law := tseg_7 (by decide +kernel) (List.mem_of_getElem? (i := 44) (by decide +kernel))
theorem qw_223 : Cond.selects RX12 yX12_all yX12_all ∈ wsL_law := List.mem_filter.mpr ⟨List.mem_append_left _ (List.mem_of_getElem? (i := 90) (by decide +kernel)), by decide +kernel⟩
theorem qw_224 : Cond.code yX12_all cX12_all 1 (some .int) ∈ wsL_law := tseg_7 (by decide +kernel) (List.mem_of_getElem? (i := 45) (by decide +kernel))
theorem qw_225 : Cond.methodLink RX12 291 yX12_aheadOf ∈ wsL_law := tseg_7 (by decide +kernel) (List.mem_of_getElem? (i := 46) (by decide +kernel))
theorem qw_226 : Cond.instanceMethod yX12_aheadOf ∈ wsL_law := tseg_7 (by decide +kernel) (List.mem_of_getElem? (i := 48) (by decide +kernel))
theorem qw_227 : Cond.selects RX12 yX12_aheadOf yX12_aheadOf ∈ wsL_law := List.mem_filter.mpr ⟨List.mem_append_left _ (List.mem_of_getElem? (i := 91) (by decide +kernel)), by decide +kernel⟩
theorem qw_228 : Cond.code yX12_aheadOf cX12_aheadOf 4 (some .int) ∈ wsL_law := tseg_7 (by decide +kernel) (List.mem_of_getElem? (i := 49) (by decide +kernel))
theorem dX12_aheadOf_0 : decode cX12_aheadOf 0 = .ok (.iconst 0, 1) := by decide +kernel
theorem dX12_aheadOf_1 : decode cX12_aheadOf 1 = .ok (.istore_n 2, 1) := by decide +kernel
theorem dX12_aheadOf_2 : decode cX12_aheadOf 2 = .ok (.iconst 0, 1) := by decide +kernel
theorem dX12_aheadOf_3 : decode cX12_aheadOf 3 = .ok (.istore_n 3, 1) := by decide +kernel
theorem dX12_aheadOf_4 : decode cX12_aheadOf 4 = .ok (.iload_n 3, 1) := by decide +kernel
theorem dX12_aheadOf_5 : decode cX12_aheadOf 5 = .ok (.aload_n 0, 1) := by decide +kernel
theorem dX12_aheadOf_6 : decode cX12_aheadOf 6 = .ok (.getfield 13, 3) := by decide +kernel
theorem dX12_aheadOf_9 : decode cX12_aheadOf 9 = .ok (.bipush 25, 2) := by decide +kernel
theorem dX12_aheadOf_11 : decode cX12_aheadOf 11 = .ok (.iload_n 1, 1) := by decide +kernel
theorem dX12_aheadOf_12 : decode cX12_aheadOf 12 = .ok (.iadd, 1) := by decide +kernel
theorem dX12_aheadOf_13 : decode cX12_aheadOf 13 = .ok (.iaload, 1) := by decide +kernel
theorem dX12_aheadOf_14 : decode cX12_aheadOf 14 = .ok (.if_icmp .ge 33, 3) := by decide +kernel
theorem dX12_aheadOf_17 : decode cX12_aheadOf 17 = .ok (.iload_n 2, 1) := by decide +kernel
theorem dX12_aheadOf_18 : decode cX12_aheadOf 18 = .ok (.aload_n 0, 1) := by decide +kernel
theorem dX12_aheadOf_19 : decode cX12_aheadOf 19 = .ok (.iload_n 1, 1) := by decide +kernel
theorem dX12_aheadOf_20 : decode cX12_aheadOf 20 = .ok (.iload_n 3, 1) := by decide +kernel
theorem dX12_aheadOf_21 : decode cX12_aheadOf 21 = .ok (.invokevirtual 279, 3) := by decide +kernel
theorem dX12_aheadOf_24 : decode cX12_aheadOf 24 = .ok (.ifCond .eq 14, 3) := by decide +kernel
theorem dX12_aheadOf_27 : decode cX12_aheadOf 27 = .ok (.iconst 1, 1) := by decide +kernel
theorem dX12_aheadOf_28 : decode cX12_aheadOf 28 = .ok (.aload_n 0, 1) := by decide +kernel
theorem dX12_aheadOf_29 : decode cX12_aheadOf 29 = .ok (.iload_n 1, 1) := by decide +kernel
theorem dX12_aheadOf_30 : decode cX12_aheadOf 30 = .ok (.iload_n 3, 1) := by decide +kernel
theorem dX12_aheadOf_31 : decode cX12_aheadOf 31 = .ok (.invokevirtual 197, 3) := by decide +kernel
theorem dX12_aheadOf_34 : decode cX12_aheadOf 34 = .ok (.ishl, 1) := by decide +kernel
theorem dX12_aheadOf_35 : decode cX12_aheadOf 35 = .ok (.goto 4, 3) := by decide +kernel
theorem dX12_aheadOf_38 : decode cX12_aheadOf 38 = .ok (.iconst 0, 1) := by decide +kernel
theorem dX12_aheadOf_39 : decode cX12_aheadOf 39 = .ok (.ior, 1) := by decide +kernel
theorem dX12_aheadOf_40 : decode cX12_aheadOf 40 = .ok (.istore_n 2, 1) := by decide +kernel
theorem dX12_aheadOf_41 : decode cX12_aheadOf 41 = .ok (.iinc 3 1, 3) := by decide +kernel
theorem dX12_aheadOf_44 : decode cX12_aheadOf 44 = .ok (.goto (-40), 3) := by decide +kernel
theorem dX12_aheadOf_47 : decode cX12_aheadOf 47 = .ok (.iload_n 2, 1) := by decide +kernel
theorem dX12_aheadOf_48 : decode cX12_aheadOf 48 = .ok (.ireturn, 1) := by decide +kernel
theorem dX12_all_0 : decode cX12_all 0 = .ok (.iconst 1, 1) := by decide +kernel
theorem dX12_all_1 : decode cX12_all 1 = .ok (.aload_n 0, 1) := by decide +kernel
theorem dX12_all_2 : decode cX12_all 2 = .ok (.getfield 13, 3) := by decide +kernel
theorem dX12_all_5 : decode cX12_all 5 = .ok (.iconst 0, 1) := by decide +kernel
theorem dX12_all_6 : decode cX12_all 6 = .ok (.iaload, 1) := by decide +kernel
theorem dX12_all_7 : decode cX12_all 7 = .ok (.ishl, 1) := by decide +kernel
theorem dX12_all_8 : decode cX12_all 8 = .ok (.iconst 1, 1) := by decide +kernel
theorem dX12_all_9 : decode cX12_all 9 = .ok (.isub, 1) := by decide +kernel
theorem dX12_all_10 : decode cX12_all 10 = .ok (.ireturn, 1) := by decide +kernel
theorem dX12_forced_0 : decode cX12_forced 0 = .ok (.aload_n 0, 1) := by decide +kernel
theorem dX12_forced_1 : decode cX12_forced 1 = .ok (.iconst 0, 1) := by decide +kernel
theorem dX12_forced_2 : decode cX12_forced 2 = .ok (.putfield 1, 3) := by decide +kernel
theorem dX12_forced_5 : decode cX12_forced 5 = .ok (.iload_n 1, 1) := by decide +kernel
theorem dX12_forced_6 : decode cX12_forced 6 = .ok (.iconst 1, 1) := by decide +kernel
theorem dX12_forced_7 : decode cX12_forced 7 = .ok (.iconst 2, 1) := by decide +kernel
theorem dX12_forced_8 : decode cX12_forced 8 = .ok (.invokestatic 95, 3) := by decide +kernel
theorem dX12_forced_11 : decode cX12_forced 11 = .ok (.ifCond .eq 15, 3) := by decide +kernel
theorem dX12_forced_14 : decode cX12_forced 14 = .ok (.iload_n 2, 1) := by decide +kernel
theorem dX12_forced_15 : decode cX12_forced 15 = .ok (.iconst 0, 1) := by decide +kernel
theorem dX12_forced_16 : decode cX12_forced 16 = .ok (.aload_n 0, 1) := by decide +kernel
theorem dX12_forced_17 : decode cX12_forced 17 = .ok (.invokevirtual 288, 3) := by decide +kernel
theorem dX12_forced_20 : decode cX12_forced 20 = .ok (.invokestatic 95, 3) := by decide +kernel
theorem dX12_forced_23 : decode cX12_forced 23 = .ok (.ifCond .ne 5, 3) := by decide +kernel
theorem dX12_forced_26 : decode cX12_forced 26 = .ok (.iconst (-1), 1) := by decide +kernel
theorem dX12_forced_27 : decode cX12_forced 27 = .ok (.ireturn, 1) := by decide +kernel
theorem dX12_forced_28 : decode cX12_forced 28 = .ok (.iload_n 2, 1) := by decide +kernel
theorem dX12_forced_29 : decode cX12_forced 29 = .ok (.istore_n 3, 1) := by decide +kernel
theorem dX12_forced_30 : decode cX12_forced 30 = .ok (.iconst (-1), 1) := by decide +kernel
theorem dX12_forced_31 : decode cX12_forced 31 = .ok (.istore 4, 2) := by decide +kernel
theorem dX12_forced_33 : decode cX12_forced 33 = .ok (.iload 4, 2) := by decide +kernel
theorem dX12_forced_35 : decode cX12_forced 35 = .ok (.iload_n 3, 1) := by decide +kernel
theorem dX12_forced_36 : decode cX12_forced 36 = .ok (.if_icmp .eq 107, 3) := by decide +kernel
theorem dX12_forced_39 : decode cX12_forced 39 = .ok (.iload_n 3, 1) := by decide +kernel
theorem dX12_forced_40 : decode cX12_forced 40 = .ok (.istore 4, 2) := by decide +kernel
theorem dX12_forced_42 : decode cX12_forced 42 = .ok (.iconst 0, 1) := by decide +kernel
theorem dX12_forced_43 : decode cX12_forced 43 = .ok (.istore 5, 2) := by decide +kernel
theorem dX12_forced_45 : decode cX12_forced 45 = .ok (.iload 5, 2) := by decide +kernel
theorem dX12_forced_47 : decode cX12_forced 47 = .ok (.aload_n 0, 1) := by decide +kernel
theorem dX12_forced_48 : decode cX12_forced 48 = .ok (.getfield 13, 3) := by decide +kernel
theorem dX12_forced_51 : decode cX12_forced 51 = .ok (.iconst 0, 1) := by decide +kernel
theorem dX12_forced_52 : decode cX12_forced 52 = .ok (.iaload, 1) := by decide +kernel
theorem dX12_forced_53 : decode cX12_forced 53 = .ok (.if_icmp .ge 87, 3) := by decide +kernel
theorem dX12_forced_56 : decode cX12_forced 56 = .ok (.aload_n 0, 1) := by decide +kernel
theorem dX12_forced_57 : decode cX12_forced 57 = .ok (.iload 5, 2) := by decide +kernel
theorem dX12_forced_59 : decode cX12_forced 59 = .ok (.iconst 0, 1) := by decide +kernel
theorem dX12_forced_60 : decode cX12_forced 60 = .ok (.invokevirtual 187, 3) := by decide +kernel
theorem dX12_forced_63 : decode cX12_forced 63 = .ok (.ifCond .eq 6, 3) := by decide +kernel
theorem dX12_forced_66 : decode cX12_forced 66 = .ok (.goto 68, 3) := by decide +kernel
theorem dX12_forced_69 : decode cX12_forced 69 = .ok (.aload_n 0, 1) := by decide +kernel
theorem dX12_forced_70 : decode cX12_forced 70 = .ok (.iload 5, 2) := by decide +kernel
theorem dX12_forced_72 : decode cX12_forced 72 = .ok (.invokevirtual 291, 3) := by decide +kernel
theorem dX12_forced_75 : decode cX12_forced 75 = .ok (.istore 6, 2) := by decide +kernel
theorem dX12_forced_77 : decode cX12_forced 77 = .ok (.aload_n 0, 1) := by decide +kernel
theorem dX12_forced_78 : decode cX12_forced 78 = .ok (.iload 5, 2) := by decide +kernel
theorem dX12_forced_80 : decode cX12_forced 80 = .ok (.iload_n 1, 1) := by decide +kernel
theorem dX12_forced_81 : decode cX12_forced 81 = .ok (.invokevirtual 187, 3) := by decide +kernel
theorem dX12_forced_84 : decode cX12_forced 84 = .ok (.ifCond .eq 18, 3) := by decide +kernel
theorem dX12_forced_87 : decode cX12_forced 87 = .ok (.iload 6, 2) := by decide +kernel
theorem dX12_forced_89 : decode cX12_forced 89 = .ok (.iload_n 3, 1) := by decide +kernel
theorem dX12_forced_90 : decode cX12_forced 90 = .ok (.iand, 1) := by decide +kernel
theorem dX12_forced_91 : decode cX12_forced 91 = .ok (.ifCond .eq 7, 3) := by decide +kernel
theorem dX12_forced_94 : decode cX12_forced 94 = .ok (.iconst 1, 1) := by decide +kernel
theorem dX12_forced_95 : decode cX12_forced 95 = .ok (.goto 21, 3) := by decide +kernel
theorem dX12_forced_98 : decode cX12_forced 98 = .ok (.iconst 0, 1) := by decide +kernel
theorem dX12_forced_99 : decode cX12_forced 99 = .ok (.goto 17, 3) := by decide +kernel
theorem dX12_forced_102 : decode cX12_forced 102 = .ok (.iload 6, 2) := by decide +kernel
theorem dX12_forced_104 : decode cX12_forced 104 = .ok (.iload_n 3, 1) := by decide +kernel
theorem dX12_forced_105 : decode cX12_forced 105 = .ok (.iconst (-1), 1) := by decide +kernel
theorem dX12_forced_106 : decode cX12_forced 106 = .ok (.ixor, 1) := by decide +kernel
theorem dX12_forced_107 : decode cX12_forced 107 = .ok (.iand, 1) := by decide +kernel
theorem dX12_forced_108 : decode cX12_forced 108 = .ok (.ifCond .ne 7, 3) := by decide +kernel
theorem dX12_forced_111 : decode cX12_forced 111 = .ok (.iconst 1, 1) := by decide +kernel
theorem dX12_forced_112 : decode cX12_forced 112 = .ok (.goto 4, 3) := by decide +kernel
theorem dX12_forced_115 : decode cX12_forced 115 = .ok (.iconst 0, 1) := by decide +kernel
theorem dX12_forced_116 : decode cX12_forced 116 = .ok (.istore 7, 2) := by decide +kernel
theorem dX12_forced_118 : decode cX12_forced 118 = .ok (.iload_n 3, 1) := by decide +kernel
theorem dX12_forced_119 : decode cX12_forced 119 = .ok (.iload 7, 2) := by decide +kernel
theorem dX12_forced_121 : decode cX12_forced 121 = .ok (.ifCond .eq 10, 3) := by decide +kernel
theorem dX12_forced_124 : decode cX12_forced 124 = .ok (.iconst 1, 1) := by decide +kernel
theorem dX12_forced_125 : decode cX12_forced 125 = .ok (.iload 5, 2) := by decide +kernel
theorem dX12_forced_127 : decode cX12_forced 127 = .ok (.ishl, 1) := by decide +kernel
theorem dX12_forced_128 : decode cX12_forced 128 = .ok (.goto 4, 3) := by decide +kernel
theorem dX12_forced_131 : decode cX12_forced 131 = .ok (.iconst 0, 1) := by decide +kernel
theorem dX12_forced_132 : decode cX12_forced 132 = .ok (.ior, 1) := by decide +kernel
theorem dX12_forced_133 : decode cX12_forced 133 = .ok (.istore_n 3, 1) := by decide +kernel
theorem dX12_forced_134 : decode cX12_forced 134 = .ok (.iinc 5 1, 3) := by decide +kernel
theorem dX12_forced_137 : decode cX12_forced 137 = .ok (.goto (-92), 3) := by decide +kernel
theorem dX12_forced_140 : decode cX12_forced 140 = .ok (.goto (-107), 3) := by decide +kernel
theorem dX12_forced_143 : decode cX12_forced 143 = .ok (.iload_n 3, 1) := by decide +kernel
theorem dX12_forced_144 : decode cX12_forced 144 = .ok (.ireturn, 1) := by decide +kernel
theorem tr_shl13 {y : Int32} (h : 0 ≤ y.toInt ∧ y.toInt ≤ 12) : 1 ≤ ((1 : Int32) <<< (y &&& 31)).toInt ∧ ((1 : Int32) <<< (y &&& 31)).toInt ≤ 4096 := by
  have e : y = 0 ∨ y = 1 ∨ y = 2 ∨ y = 3 ∨ y = 4 ∨ y = 5 ∨ y = 6 ∨ y = 7 ∨ y = 8 ∨ y = 9 ∨ y = 10 ∨ y = 11 ∨ y = 12 := by
    rcases (show y.toInt = 0 ∨ y.toInt = 1 ∨ y.toInt = 2 ∨ y.toInt = 3 ∨ y.toInt = 4 ∨ y.toInt = 5 ∨ y.toInt = 6 ∨ y.toInt = 7 ∨ y.toInt = 8 ∨ y.toInt = 9 ∨ y.toInt = 10 ∨ y.toInt = 11 ∨ y.toInt = 12 by omega) with q | q | q | q | q | q | q | q | q | q | q | q | q
    · exact Or.inl (Int32.toInt_inj.mp (q.trans (by decide)))
    · exact Or.inr (Or.inl (Int32.toInt_inj.mp (q.trans (by decide))))
    · exact Or.inr (Or.inr (Or.inl (Int32.toInt_inj.mp (q.trans (by decide)))))
    · exact Or.inr (Or.inr (Or.inr (Or.inl (Int32.toInt_inj.mp (q.trans (by decide))))))
    · exact Or.inr (Or.inr (Or.inr (Or.inr (Or.inl (Int32.toInt_inj.mp (q.trans (by decide)))))))
    · exact Or.inr (Or.inr (Or.inr (Or.inr (Or.inr (Or.inl (Int32.toInt_inj.mp (q.trans (by decide))))))))
    · exact Or.inr (Or.inr (Or.inr (Or.inr (Or.inr (Or.inr (Or.inl (Int32.toInt_inj.mp (q.trans (by decide)))))))))
    · exact Or.inr (Or.inr (Or.inr (Or.inr (Or.inr (Or.inr (Or.inr (Or.inl (Int32.toInt_inj.mp (q.trans (by decide))))))))))
    · exact Or.inr (Or.inr (Or.inr (Or.inr (Or.inr (Or.inr (Or.inr (Or.inr (Or.inl (Int32.toInt_inj.mp (q.trans (by decide)))))))))))
    · exact Or.inr (Or.inr (Or.inr (Or.inr (Or.inr (Or.inr (Or.inr (Or.inr (Or.inr (Or.inl (Int32.toInt_inj.mp (q.trans (by decide))))))))))))
    · exact Or.inr (Or.inr (Or.inr (Or.inr (Or.inr (Or.inr (Or.inr (Or.inr (Or.inr (Or.inr (Or.inl (Int32.toInt_inj.mp (q.trans (by decide)))))))))))))
    · exact Or.inr (Or.inr (Or.inr (Or.inr (Or.inr (Or.inr (Or.inr (Or.inr (Or.inr (Or.inr (Or.inr (Or.inl (Int32.toInt_inj.mp (q.trans (by decide))))))))))))))
    · exact Or.inr (Or.inr (Or.inr (Or.inr (Or.inr (Or.inr (Or.inr (Or.inr (Or.inr (Or.inr (Or.inr (Or.inr (Int32.toInt_inj.mp (q.trans (by decide))))))))))))))
  rcases e with rfl | rfl | rfl | rfl | rfl | rfl | rfl | rfl | rfl | rfl | rfl | rfl | rfl <;> decide
set_option maxHeartbeats 4000000 in
set_option maxRecDepth 100000 in
theorem c_X12_aheadOfN (l : Launch) (D : va_G) (g : Nat → ClassId) (mm : Nat) (p0 : Int32) (i_thrown : Int32) (m_s : Nat) (m_spare : Nat) (m_kept : Nat) (m_undone : Nat) (m_triedWay : Nat) (m_isKept : Nat) (i_undoMany : Int32) (m_tape : Nat) (i_length : Int32) (i_size : Int32) (i_p : Int32) (i_at : Int32) (i_token : Int32) (i_number : Int32) (i_letterMany : Int32) (i_fault : Int32) (i_faultAt : Int32) (m_letters : Nat) (i_isKnown : Int32) (m_choice : Nat) (m_row : Nat) (m_up : Nat) (m_low : Nat) (m_m : Nat) (m_bestUp : Nat) (m_bestLow : Nat) (m_replyUp : Nat) (m_replyLow : Nat) (m_worthUp : Nat) (m_worthLow : Nat) (m_bestWay : Nat) (i_seed : Int32) (m_told : Nat) (i_toldMany : Int32) (sf : Nat → Int32) (h_p0 : 0 ≤ (p0 : Int32).toInt ∧ (p0 : Int32).toInt ≤ 11) (h_i_undoMany : 0 ≤ (i_undoMany : Int32).toInt ∧ (i_undoMany : Int32).toInt ≤ 8) (h_i_length : 0 ≤ (i_length : Int32).toInt ∧ (i_length : Int32).toInt ≤ 440) (h_i_size : 0 ≤ (i_size : Int32).toInt ∧ (i_size : Int32).toInt ≤ 440) (h_i_p : 0 ≤ (i_p : Int32).toInt ∧ (i_p : Int32).toInt ≤ 440) (h_i_at : 0 ≤ (i_at : Int32).toInt ∧ (i_at : Int32).toInt ≤ 440) (h_i_token : 0 ≤ (i_token : Int32).toInt ∧ (i_token : Int32).toInt ≤ 4) (h_i_number : 0 ≤ (i_number : Int32).toInt ∧ (i_number : Int32).toInt ≤ 814) (h_i_letterMany : (-440) ≤ (i_letterMany : Int32).toInt ∧ (i_letterMany : Int32).toInt ≤ 440) (h_i_faultAt : 0 ≤ (i_faultAt : Int32).toInt ∧ (i_faultAt : Int32).toInt ≤ 440) (h_i_isKnown : 0 ≤ (i_isKnown : Int32).toInt ∧ (i_isKnown : Int32).toInt ≤ 1) (h_i_toldMany : 0 ≤ (i_toldMany : Int32).toInt ∧ (i_toldMany : Int32).toInt ≤ 900) (hG : GS sf) : Met l yX12_aheadOf (.code yX12_aheadOf cX12_aheadOf 4 (some .int) :: wsL_law) ({ frames := 1, cells := 0, slots := 0, locals := 22 }) (va_Pc [.ref mm, .int p0] (fun U => va_P D vwCl [(mm, .inr (12, (.int i_thrown :: .ref m_s :: .ref m_spare :: .ref m_kept :: .ref m_undone :: .ref m_triedWay :: .ref m_isKept :: .int i_undoMany :: .ref m_tape :: .int i_length :: .int i_size :: .int i_p :: .int i_at :: .int i_token :: .int i_number :: .int i_letterMany :: .int i_fault :: .int i_faultAt :: .ref m_letters :: .int i_isKnown :: .ref m_choice :: .ref m_row :: .ref m_up :: .ref m_low :: .ref m_m :: .ref m_bestUp :: .ref m_bestLow :: .ref m_replyUp :: .ref m_replyLow :: .ref m_worthUp :: .ref m_worthLow :: .ref m_bestWay :: .int i_seed :: .ref m_told :: .int i_toldMany :: []))), (m_s, .inl (g 0, 193, .inl sf))] U.heap ∧ va_K D vwCl (TY g) U)) (vp_Si (fun r => (0 ≤ (r : Int32).toInt ∧ (r : Int32).toInt ≤ 4095) ∧ ((r : Int32) = ahF (sf (109 + (p0 : Int32).toInt.toNat)).toInt (fun i => sf (37 + 3 * (p0 : Int32).toInt.toNat + i)) (sf (25 + (p0 : Int32).toInt.toNat)).toInt.toNat))) 0 0 (fun _ => False) := by
  refine Met.ofW (cc := cX12_aheadOf) (maxL := 4) (ret := (some .int)) (by decide) rfl ?_
  intro p e s m args below meth c s₁ B hml hv
  obtain ⟨ha, hP, hK⟩ := hv
  have hx := B.exec
  have hb := B.bytes
  have hr := B.returns
  have hts0 := atoms_spec (ws := (.code yX12_aheadOf cX12_aheadOf 4 (some .int) :: wsL_law)) B.pre
  have hts : ∀ w ∈ wsL_law, w.before args s = true := fun w h => hts0 w (List.mem_cons_of_mem _ h)
  have hown : s.vm.findClass RX12 = some m.cls := findClass_of_methodNamed B.named
  have hlocks := B.notSynchronized
  have hP : va_P D vwCl [(mm, .inr (12, (.int i_thrown :: .ref m_s :: .ref m_spare :: .ref m_kept :: .ref m_undone :: .ref m_triedWay :: .ref m_isKept :: .int i_undoMany :: .ref m_tape :: .int i_length :: .int i_size :: .int i_p :: .int i_at :: .int i_token :: .int i_number :: .int i_letterMany :: .int i_fault :: .int i_faultAt :: .ref m_letters :: .int i_isKnown :: .ref m_choice :: .ref m_row :: .ref m_up :: .ref m_low :: .ref m_m :: .ref m_bestUp :: .ref m_bestLow :: .ref m_replyUp :: .ref m_replyLow :: .ref m_worthUp :: .ref m_worthLow :: .ref m_bestWay :: .int i_seed :: .ref m_told :: .int i_toldMany :: []))), (m_s, .inl (g 0, 193, .inl sf))] s.heap := hP
  refine W.eq (g2 := entryFrame m ([.ref mm, .int p0] : List Value).toArray 4) (by rw [ha]) ?_
  have hl := lv_entry ([.ref mm, .int p0]) (n := 4) (Nat.le_of_ble_eq_true rfl)
  rw [lg_entry_eq]
  generalize (lg_sl ([.ref mm, .int p0]) ++ List.replicate (4 - (lg_sl ([.ref mm, .int p0])).length) Slot.unset).toArray = ls at hl ⊢
  have hl : lv_has ls 4 [(0, .ref mm), (1, .int p0)] := hl
  refine lv_iconst (v := 0) hx hb dX12_aheadOf_0 (by decide) ?_
  refine lv_istore_n (lv' := [(2, .int 0), (0, .ref mm), (1, .int p0)]) hx hb dX12_aheadOf_1 rfl hl (by decide) rfl (fun ls hl => ?_)
  refine lv_iconst (v := 0) hx hb dX12_aheadOf_2 (by decide) ?_
  refine lv_istore_n (lv' := [(3, .int 0), (2, .int 0), (0, .ref mm), (1, .int p0)]) hx hb dX12_aheadOf_3 rfl hl (by decide) rfl (fun ls hl => ?_)
  have lp_45094 : ∀ (n_45094 : Nat) (x_45092 : Int32) (x_45093 : Int32) (ls : Array Slot), (0 ≤ (x_45092 : Int32).toInt ∧ (x_45092 : Int32).toInt ≤ 4095) → (0 ≤ (x_45093 : Int32).toInt ∧ (x_45093 : Int32).toInt ≤ 3) → ((x_45092 : Int32) = ahF (sf (109 + (p0 : Int32).toInt.toNat)).toInt (fun i => sf (37 + 3 * (p0 : Int32).toInt.toNat + i)) x_45093.toInt.toNat ∧ x_45093.toInt ≤ (sf (25 + (p0 : Int32).toInt.toNat)).toInt) → (3 - x_45093.toInt < (n_45094 : Int)) → lv_has ls 4 [(3, .int x_45093), (2, .int x_45092), (0, .ref mm), (1, .int p0)] → W p l e (headSpec (.code yX12_aheadOf cX12_aheadOf 4 (some .int) :: wsL_law) ({ frames := 1, cells := 0, slots := 0, locals := 22 })).room s m args below meth c s.heap [] 0 0 (MQ below (vp_Si (fun r => (0 ≤ (r : Int32).toInt ∧ (r : Int32).toInt ≤ 4095) ∧ ((r : Int32) = ahF (sf (109 + (p0 : Int32).toInt.toNat)).toInt (fun i => sf (37 + 3 * (p0 : Int32).toInt.toNat + i)) (sf (25 + (p0 : Int32).toInt.toNat)).toInt.toNat))) args s 0 0 (fun _ => False)) (F0 m 4 ls []) := by
    intro n_45094
    induction n_45094 with
    | zero =>
      intro x_45092 x_45093 ls h_x_45092 h_x_45093 hr45094_0 hm_45094 hl
      exfalso; omega
    | succ n_45094 ih_45094 =>
      intro x_45092 x_45093 ls h_x_45092 h_x_45093 hr45094_0 hm_45094 hl
      refine lv_iload_n hx hb dX12_aheadOf_4 rfl (lv_at hl 0 rfl) ?_
      refine lv_aload_n hx hb dX12_aheadOf_5 rfl (lv_at hl 2 rfl) ?_
      refine va_get (D := D) (ci := 12) (v := .ref m_s) (C := RX12) (T := TX12) (N := 35) hx hb hts inlX12 hown hK hP 0 rfl rfl 1 (by decide) (hts (Cond.fieldLink RX12 13 "ChanceRingsModel" "s" "[I") qw_73) (fun _ h9 => h9) rfl dX12_aheadOf_6 ?_
      refine lv_bipush (v := 25) hx hb dX12_aheadOf_9 (by decide) ?_
      refine lv_iload_n hx hb dX12_aheadOf_11 rfl (lv_at hl 3 rfl) ?_
      refine lv_iadd hx hb dX12_aheadOf_12 ?_
      refine lv_topi (fun v_45095 v_45095_e => ?_)
      have h_v_45095 : 25 ≤ (v_45095 : Int32).toInt ∧ (v_45095 : Int32).toInt ≤ 36 := by rw [v_45095_e]; exact tr_add (⟨by decide, by decide⟩ : 25 ≤ (25 : Int32).toInt ∧ (25 : Int32).toInt ≤ 25) h_p0 (by decide) (by decide) (by decide) (by decide)
      have q_v_45095 : v_45095.toInt = 25 + p0.toInt := by rw [v_45095_e]; exact (tr_addX (⟨by decide, by decide⟩ : 25 ≤ (25 : Int32).toInt ∧ (25 : Int32).toInt ≤ 25) h_p0 (by decide) (by decide)).trans (by rw [tk_25])
      refine va_iald hx hb hK hP 1 0 rfl rfl (tr_in h_v_45095 (by decide) (by decide)) dX12_aheadOf_13 ?_
      refine lv_topi (fun v_45096 v_45096_e => ?_)
      have h_v_45096 : 0 ≤ (v_45096 : Int32).toInt ∧ (v_45096 : Int32).toInt ≤ 3 := by rw [v_45096_e]; exact gr_ways hG.r (tr_w h_v_45095 (by decide) (by decide))
      have g_v_45096 : v_45096 = sf (25 + p0.toInt.toNat) := v_45096_e.trans (congrArg sf (by show Int.toNat _ = _; omega))
      have gi_v_45096 := congrArg Int32.toInt g_v_45096
      refine lv_icmp_ge (tgt := 47) hx hb dX12_aheadOf_14 (by decide) (fun c_45097 => ?_) (fun c_45097 => ?_)
      · skip
        have c_45097_i := Int32.le_iff_toInt_le.mp c_45097
        refine lv_iload_n hx hb dX12_aheadOf_47 rfl (lv_at hl 1 rfl) ?_
        exact W.iret (v := x_45092) hx hb hr (fun t ht hW => ⟨x_45092, rfl, ⟨(tr_w h_x_45092 (by decide) (by decide)), (hr45094_0.1.trans (congrArg (ahF (sf (109 + (p0 : Int32).toInt.toNat)).toInt (fun i => sf (37 + 3 * (p0 : Int32).toInt.toNat + i))) (by have q8 := gi_v_45096; omega)))⟩, ht⟩) (fun _ h => nomatch h) dX12_aheadOf_48
      · skip
        have c_45097_i := Int32.lt_iff_toInt_lt.mp (Int32.not_le.mp c_45097)
        have c_45097_i := Int32.lt_iff_toInt_lt.mp (Int32.not_le.mp c_45097)
        have h_45098 : 0 ≤ (x_45093 : Int32).toInt ∧ (x_45093 : Int32).toInt ≤ 2 := by have q1 := h_x_45093; have q2 := h_v_45096; omega
        have h_45099 : 1 ≤ (v_45096 : Int32).toInt ∧ (v_45096 : Int32).toInt ≤ 3 := by have q1 := h_x_45093; have q2 := h_v_45096; omega
        refine lv_iload_n hx hb dX12_aheadOf_17 rfl (lv_at hl 1 rfl) ?_
        refine lv_aload_n hx hb dX12_aheadOf_18 rfl (lv_at hl 2 rfl) ?_
        refine lv_iload_n hx hb dX12_aheadOf_19 rfl (lv_at hl 3 rfl) ?_
        refine lv_iload_n hx hb dX12_aheadOf_20 rfl (lv_at hl 0 rfl) ?_
        have hPc := hP.sub (ws' := [(mm, .inr (12, (.int i_thrown :: .ref m_s :: .ref m_spare :: .ref m_kept :: .ref m_undone :: .ref m_triedWay :: .ref m_isKept :: .int i_undoMany :: .ref m_tape :: .int i_length :: .int i_size :: .int i_p :: .int i_at :: .int i_token :: .int i_number :: .int i_letterMany :: .int i_fault :: .int i_faultAt :: .ref m_letters :: .int i_isKnown :: .ref m_choice :: .ref m_row :: .ref m_up :: .ref m_low :: .ref m_m :: .ref m_bestUp :: .ref m_bestLow :: .ref m_replyUp :: .ref m_replyLow :: .ref m_worthUp :: .ref m_worthLow :: .ref m_bestWay :: .int i_seed :: .ref m_told :: .int i_toldMany :: []))), (m_s, .inl (g 0, 193, .inl sf))]) [0, 1] rfl
        refine vp_callSi (va_Run.run (va_runV (As := [.int p0, .int x_45093]) (rest := [.int x_45092]) ⟨hx, hb, hml, hown, hts⟩ (c_X12_may l D g mm p0 x_45093 i_thrown m_s m_spare m_kept m_undone m_triedWay m_isKept i_undoMany m_tape i_length i_size i_p i_at i_token i_number i_letterMany i_fault i_faultAt m_letters i_isKnown m_choice m_row m_up m_low m_m m_bestUp m_bestLow m_replyUp m_replyLow m_worthUp m_worthLow m_bestWay i_seed m_told i_toldMany sf (tr_w h_p0 (by decide) (by decide)) (tr_w h_i_undoMany (by decide) (by decide)) (tr_w h_i_length (by decide) (by decide)) (tr_w h_i_size (by decide) (by decide)) (tr_w h_i_p (by decide) (by decide)) (tr_w h_i_at (by decide) (by decide)) (tr_w h_i_token (by decide) (by decide)) (tr_w h_i_number (by decide) (by decide)) (tr_w h_i_letterMany (by decide) (by decide)) (tr_w h_i_faultAt (by decide) (by decide)) (tr_w h_i_isKnown (by decide) (by decide)) (tr_w h_i_toldMany (by decide) (by decide)) hG) (cwV 2 hts (tz_gV qw_217 qw_218 qw_219 qw_3 qw_220) rfl rfl rfl (by decide +kernel) ⟨Nat.le_of_ble_eq_true rfl, Nat.le_of_ble_eq_true rfl⟩) ⟨tz_blS, va_recv hK hPc (ci := 12) (q0 := 0) rfl rfl, tz_preS hPc hK⟩ rfl rfl hl.1 rfl (lv_room (Nat.le_of_ble_eq_true rfl)) dX12_aheadOf_21 ⟨Nat.le_of_ble_eq_true rfl, Nat.le_of_ble_eq_true rfl⟩)) (fun r_45100 hw => ?_)
        have hw_45101 : 0 ≤ (r_45100 : Int32).toInt ∧ (r_45100 : Int32).toInt ≤ 1 := hw.1
        have hw_45101_p0 : Hide (¬ (r_45100 : Int32).toInt = 0 → (x_45093 : Int32).toInt < (sf (25 + (p0 : Int32).toInt.toNat)).toInt ∧ ((sf (109 + (p0 : Int32).toInt.toNat)).toInt < 0 ∨ (sf (109 + (p0 : Int32).toInt.toNat)).toInt = (x_45093 : Int32).toInt)) := hw.2.1
        have hw_45101_p1 : Hide ((r_45100 : Int32).toInt = 0 → ¬ ((x_45093 : Int32).toInt < (sf (25 + (p0 : Int32).toInt.toNat)).toInt ∧ ((sf (109 + (p0 : Int32).toInt.toNat)).toInt < 0 ∨ (sf (109 + (p0 : Int32).toInt.toNat)).toInt = (x_45093 : Int32).toInt))) := hw.2.2
        refine lv_if_eq (tgt := 38) hx hb dX12_aheadOf_24 (by decide) (fun c_45102 => ?_) (fun c_45102 => ?_)
        · skip
          have kk_0 := tk_0
          have c_45102_i := c_45102
          have c_45102_i : (r_45100 : Int32).toInt = (0 : Int32).toInt := congrArg Int32.toInt c_45102
          have hw_45101_p1_u := (hw_45101_p1).get (c_45102_i.trans tk_0)
          have c_45102_i := c_45102
          have c_45102_i : (r_45100 : Int32).toInt = (0 : Int32).toInt := congrArg Int32.toInt c_45102
          have h_45103 : 0 ≤ (r_45100 : Int32).toInt ∧ (r_45100 : Int32).toInt ≤ 0 := by have q1 := hw_45101; have q2 := (⟨by decide, by decide⟩ : 0 ≤ (0 : Int32).toInt ∧ (0 : Int32).toInt ≤ 0); omega
          refine lv_iconst (v := 0) hx hb dX12_aheadOf_38 (by decide) ?_
          refine lv_ior hx hb dX12_aheadOf_39 ?_
          refine lv_topi (fun v_45105 v_45105_e => ?_)
          have h_v_45105 : 0 ≤ (v_45105 : Int32).toInt ∧ (v_45105 : Int32).toInt ≤ 4095 := by rw [v_45105_e]; exact (tr_or12 (tr_w h_x_45092 (by decide) (by decide)) (⟨by decide, by decide⟩ : 0 ≤ (0 : Int32).toInt ∧ (0 : Int32).toInt ≤ 4095)).1
          have o_v_45105 : (x_45092 : Int32).toInt ≤ (v_45105 : Int32).toInt := by rw [v_45105_e]; exact (tr_or12 (tr_w h_x_45092 (by decide) (by decide)) (⟨by decide, by decide⟩ : 0 ≤ (0 : Int32).toInt ∧ (0 : Int32).toInt ≤ 4095)).2
          refine lv_istore_n (lv' := [(2, .int v_45105), (3, .int x_45093), (0, .ref mm), (1, .int p0)]) hx hb dX12_aheadOf_40 rfl hl (by decide) rfl (fun ls hl => ?_)
          obtain ⟨v_45106, v_45106_e⟩ : ∃ y : Int32, y = x_45093 + Int32.ofInt 1 := ⟨_, rfl⟩
          have h_v_45106 : 1 ≤ (v_45106 : Int32).toInt ∧ (v_45106 : Int32).toInt ≤ 3 := by rw [v_45106_e]; exact tr_add h_45098 (⟨by decide, by decide⟩ : 1 ≤ (Int32.ofInt 1 : Int32).toInt ∧ (Int32.ofInt 1 : Int32).toInt ≤ 1) (by decide) (by decide) (by decide) (by decide)
          have q_v_45106 : v_45106.toInt = x_45093.toInt + 1 := by rw [v_45106_e]; exact tr_addE h_45098 (⟨by decide, by decide⟩ : 1 ≤ (Int32.ofInt 1 : Int32).toInt ∧ (Int32.ofInt 1 : Int32).toInt ≤ 1) (by decide) (by decide)
          refine lv_iinc (v := v_45106) (lv' := [(3, .int v_45106), (2, .int v_45105), (0, .ref mm), (1, .int p0)]) hx hb dX12_aheadOf_41 hl (k := 1) rfl v_45106_e.symm (by decide) rfl (fun ls hl => ?_)
          refine lv_goto (tgt := 4) hx hb dX12_aheadOf_44 (by decide) ?_
          exact ih_45094 v_45105 v_45106 ls (tr_w h_v_45105 (by decide) (by decide)) (tr_w h_v_45106 (by decide) (by decide)) ⟨ahF_n hr45094_0.1 (by omega) (by have q7 := (hG.r.2.1 (p0 : Int32).toInt.toNat (by omega)).2.2.2; have q8 := gi_v_45096; have q9 := hw_45101_p1_u; omega) (v_45105_e.trans (orz _)), (by have q8 := gi_v_45096; omega)⟩ (by omega) (lv_sub hl [0, 1, 2, 3] rfl)
        · skip
          have kk_0 := tk_0
          have c_45102_i := c_45102
          have c_45102_i : ¬ (r_45100 : Int32).toInt = (0 : Int32).toInt := (fun q => c_45102 (Int32.toInt_inj.mp q))
          have hw_45101_p0_u := (hw_45101_p0).get (fun q => c_45102_i (q.trans tk_0.symm))
          have c_45102_i := c_45102
          have c_45102_i : ¬ (r_45100 : Int32).toInt = (0 : Int32).toInt := (fun q => c_45102 (Int32.toInt_inj.mp q))
          have h_45104 : 1 ≤ (r_45100 : Int32).toInt ∧ (r_45100 : Int32).toInt ≤ 1 := by have q1 := hw_45101; have q2 := (⟨by decide, by decide⟩ : 0 ≤ (0 : Int32).toInt ∧ (0 : Int32).toInt ≤ 0); omega
          refine lv_iconst (v := 1) hx hb dX12_aheadOf_27 (by decide) ?_
          refine lv_aload_n hx hb dX12_aheadOf_28 rfl (lv_at hl 2 rfl) ?_
          refine lv_iload_n hx hb dX12_aheadOf_29 rfl (lv_at hl 3 rfl) ?_
          refine lv_iload_n hx hb dX12_aheadOf_30 rfl (lv_at hl 0 rfl) ?_
          have hPc := hP.sub (ws' := [(mm, .inr (12, (.int i_thrown :: .ref m_s :: .ref m_spare :: .ref m_kept :: .ref m_undone :: .ref m_triedWay :: .ref m_isKept :: .int i_undoMany :: .ref m_tape :: .int i_length :: .int i_size :: .int i_p :: .int i_at :: .int i_token :: .int i_number :: .int i_letterMany :: .int i_fault :: .int i_faultAt :: .ref m_letters :: .int i_isKnown :: .ref m_choice :: .ref m_row :: .ref m_up :: .ref m_low :: .ref m_m :: .ref m_bestUp :: .ref m_bestLow :: .ref m_replyUp :: .ref m_replyLow :: .ref m_worthUp :: .ref m_worthLow :: .ref m_bestWay :: .int i_seed :: .ref m_told :: .int i_toldMany :: []))), (m_s, .inl (g 0, 193, .inl sf))]) [0, 1] rfl
          refine vp_callSi (va_Run.run (va_runV (As := [.int p0, .int x_45093]) (rest := [.int 1, .int x_45092]) ⟨hx, hb, hml, hown, hts⟩ (c_X12_to l D g mm p0 x_45093 i_thrown m_s m_spare m_kept m_undone m_triedWay m_isKept i_undoMany m_tape i_length i_size i_p i_at i_token i_number i_letterMany i_fault i_faultAt m_letters i_isKnown m_choice m_row m_up m_low m_m m_bestUp m_bestLow m_replyUp m_replyLow m_worthUp m_worthLow m_bestWay i_seed m_told i_toldMany sf (tr_w h_p0 (by decide) (by decide)) (tr_w h_45098 (by decide) (by decide)) (tr_w h_i_undoMany (by decide) (by decide)) (tr_w h_i_length (by decide) (by decide)) (tr_w h_i_size (by decide) (by decide)) (tr_w h_i_p (by decide) (by decide)) (tr_w h_i_at (by decide) (by decide)) (tr_w h_i_token (by decide) (by decide)) (tr_w h_i_number (by decide) (by decide)) (tr_w h_i_letterMany (by decide) (by decide)) (tr_w h_i_faultAt (by decide) (by decide)) (tr_w h_i_isKnown (by decide) (by decide)) (tr_w h_i_toldMany (by decide) (by decide)) hG) (cwV 2 hts (tz_gV qw_121 qw_122 qw_123 qw_3 qw_124) rfl rfl rfl (by decide +kernel) ⟨Nat.le_of_ble_eq_true rfl, Nat.le_of_ble_eq_true rfl⟩) ⟨tz_blS, va_recv hK hPc (ci := 12) (q0 := 0) rfl rfl, tz_preS hPc hK⟩ rfl rfl hl.1 rfl (lv_room (Nat.le_of_ble_eq_true rfl)) dX12_aheadOf_31 ⟨Nat.le_of_ble_eq_true rfl, Nat.le_of_ble_eq_true rfl⟩)) (fun r_45107 hw => ?_)
          have hw_45108 : 0 ≤ (r_45107 : Int32).toInt ∧ (r_45107 : Int32).toInt ≤ 11 := hw.1
          have hw_45108_p0 : (r_45107 : Int32) = sf (37 + 3 * (p0 : Int32).toInt.toNat + (x_45093 : Int32).toInt.toNat) := hw.2
          refine lv_ishl hx hb dX12_aheadOf_34 ?_
          refine lv_topi (fun v_45109 v_45109_e => ?_)
          have h_v_45109 : 0 ≤ (v_45109 : Int32).toInt ∧ (v_45109 : Int32).toInt ≤ 4095 := by rw [v_45109_e]; exact tr_shl12 (tr_w hw_45108 (by decide) (by decide))
          refine lv_goto (tgt := 39) hx hb dX12_aheadOf_35 (by decide) ?_
          refine lv_ior hx hb dX12_aheadOf_39 ?_
          refine lv_topi (fun v_45110 v_45110_e => ?_)
          have h_v_45110 : 0 ≤ (v_45110 : Int32).toInt ∧ (v_45110 : Int32).toInt ≤ 4095 := by rw [v_45110_e]; exact (tr_or12 (tr_w h_x_45092 (by decide) (by decide)) (tr_w h_v_45109 (by decide) (by decide))).1
          have o_v_45110 : (x_45092 : Int32).toInt ≤ (v_45110 : Int32).toInt := by rw [v_45110_e]; exact (tr_or12 (tr_w h_x_45092 (by decide) (by decide)) (tr_w h_v_45109 (by decide) (by decide))).2
          refine lv_istore_n (lv' := [(2, .int v_45110), (3, .int x_45093), (0, .ref mm), (1, .int p0)]) hx hb dX12_aheadOf_40 rfl hl (by decide) rfl (fun ls hl => ?_)
          obtain ⟨v_45111, v_45111_e⟩ : ∃ y : Int32, y = x_45093 + Int32.ofInt 1 := ⟨_, rfl⟩
          have h_v_45111 : 1 ≤ (v_45111 : Int32).toInt ∧ (v_45111 : Int32).toInt ≤ 3 := by rw [v_45111_e]; exact tr_add h_45098 (⟨by decide, by decide⟩ : 1 ≤ (Int32.ofInt 1 : Int32).toInt ∧ (Int32.ofInt 1 : Int32).toInt ≤ 1) (by decide) (by decide) (by decide) (by decide)
          have q_v_45111 : v_45111.toInt = x_45093.toInt + 1 := by rw [v_45111_e]; exact tr_addE h_45098 (⟨by decide, by decide⟩ : 1 ≤ (Int32.ofInt 1 : Int32).toInt ∧ (Int32.ofInt 1 : Int32).toInt ≤ 1) (by decide) (by decide)
          refine lv_iinc (v := v_45111) (lv' := [(3, .int v_45111), (2, .int v_45110), (0, .ref mm), (1, .int p0)]) hx hb dX12_aheadOf_41 hl (k := 1) rfl v_45111_e.symm (by decide) rfl (fun ls hl => ?_)
          refine lv_goto (tgt := 4) hx hb dX12_aheadOf_44 (by decide) ?_
          exact ih_45094 v_45110 v_45111 ls (tr_w h_v_45110 (by decide) (by decide)) (tr_w h_v_45111 (by decide) (by decide)) ⟨ahF_y hr45094_0.1 (by omega) (by have q7 := (hG.r.2.1 (p0 : Int32).toInt.toNat (by omega)).2.2.2; have q9 := hw_45101_p0_u; omega) hw_45108_p0 v_45109_e v_45110_e, (by have q8 := gi_v_45096; omega)⟩ (by omega) (lv_sub hl [0, 1, 2, 3] rfl)
  exact lp_45094 4 0 0 ls (⟨by decide, by decide⟩ : 0 ≤ (0 : Int32).toInt ∧ (0 : Int32).toInt ≤ 4095) (⟨by decide, by decide⟩ : 0 ≤ (0 : Int32).toInt ∧ (0 : Int32).toInt ≤ 3) ⟨rfl, by have q7 := (hG.r.2.1 (p0 : Int32).toInt.toNat (by omega)).2.2.1; have z_0 := tk_0; omega⟩ (by decide) (lv_sub hl [0, 1, 2, 3] rfl)
set_option maxHeartbeats 4000000 in
set_option maxRecDepth 100000 in
theorem c_X12_allN (l : Launch) (D : va_G) (g : Nat → ClassId) (mm : Nat) (i_thrown : Int32) (m_s : Nat) (m_spare : Nat) (m_kept : Nat) (m_undone : Nat) (m_triedWay : Nat) (m_isKept : Nat) (i_undoMany : Int32) (m_tape : Nat) (i_length : Int32) (i_size : Int32) (i_p : Int32) (i_at : Int32) (i_token : Int32) (i_number : Int32) (i_letterMany : Int32) (i_fault : Int32) (i_faultAt : Int32) (m_letters : Nat) (i_isKnown : Int32) (m_choice : Nat) (m_row : Nat) (m_up : Nat) (m_low : Nat) (m_m : Nat) (m_bestUp : Nat) (m_bestLow : Nat) (m_replyUp : Nat) (m_replyLow : Nat) (m_worthUp : Nat) (m_worthLow : Nat) (m_bestWay : Nat) (i_seed : Int32) (m_told : Nat) (i_toldMany : Int32) (sf : Nat → Int32) (h_i_undoMany : 0 ≤ (i_undoMany : Int32).toInt ∧ (i_undoMany : Int32).toInt ≤ 8) (h_i_length : 0 ≤ (i_length : Int32).toInt ∧ (i_length : Int32).toInt ≤ 440) (h_i_size : 0 ≤ (i_size : Int32).toInt ∧ (i_size : Int32).toInt ≤ 440) (h_i_p : 0 ≤ (i_p : Int32).toInt ∧ (i_p : Int32).toInt ≤ 440) (h_i_at : 0 ≤ (i_at : Int32).toInt ∧ (i_at : Int32).toInt ≤ 440) (h_i_token : 0 ≤ (i_token : Int32).toInt ∧ (i_token : Int32).toInt ≤ 4) (h_i_number : 0 ≤ (i_number : Int32).toInt ∧ (i_number : Int32).toInt ≤ 814) (h_i_letterMany : (-440) ≤ (i_letterMany : Int32).toInt ∧ (i_letterMany : Int32).toInt ≤ 440) (h_i_faultAt : 0 ≤ (i_faultAt : Int32).toInt ∧ (i_faultAt : Int32).toInt ≤ 440) (h_i_isKnown : 0 ≤ (i_isKnown : Int32).toInt ∧ (i_isKnown : Int32).toInt ≤ 1) (h_i_toldMany : 0 ≤ (i_toldMany : Int32).toInt ∧ (i_toldMany : Int32).toInt ≤ 900) (hG : GS sf) : Met l yX12_all (.code yX12_all cX12_all 1 (some .int) :: wsL_law) ({ frames := 0, cells := 0, slots := 0, locals := 0 }) (va_Pc [.ref mm] (fun U => va_P D vwCl [(mm, .inr (12, (.int i_thrown :: .ref m_s :: .ref m_spare :: .ref m_kept :: .ref m_undone :: .ref m_triedWay :: .ref m_isKept :: .int i_undoMany :: .ref m_tape :: .int i_length :: .int i_size :: .int i_p :: .int i_at :: .int i_token :: .int i_number :: .int i_letterMany :: .int i_fault :: .int i_faultAt :: .ref m_letters :: .int i_isKnown :: .ref m_choice :: .ref m_row :: .ref m_up :: .ref m_low :: .ref m_m :: .ref m_bestUp :: .ref m_bestLow :: .ref m_replyUp :: .ref m_replyLow :: .ref m_worthUp :: .ref m_worthLow :: .ref m_bestWay :: .int i_seed :: .ref m_told :: .int i_toldMany :: []))), (m_s, .inl (g 0, 193, .inl sf))] U.heap ∧ va_K D vwCl (TY g) U)) (vp_Si (fun r => (0 ≤ (r : Int32).toInt ∧ (r : Int32).toInt ≤ 4095) ∧ ((r : Int32).toInt = (bit1 (sf 0).toInt.toNat).toInt - 1))) 0 0 (fun _ => False) := by
  refine Met.ofW (cc := cX12_all) (maxL := 1) (ret := (some .int)) (by decide) rfl ?_
  intro p e s m args below meth c s₁ B hml hv
  obtain ⟨ha, hP, hK⟩ := hv
  have hx := B.exec
  have hb := B.bytes
  have hr := B.returns
  have hts0 := atoms_spec (ws := (.code yX12_all cX12_all 1 (some .int) :: wsL_law)) B.pre
  have hts : ∀ w ∈ wsL_law, w.before args s = true := fun w h => hts0 w (List.mem_cons_of_mem _ h)
  have hown : s.vm.findClass RX12 = some m.cls := findClass_of_methodNamed B.named
  have hlocks := B.notSynchronized
  have hP : va_P D vwCl [(mm, .inr (12, (.int i_thrown :: .ref m_s :: .ref m_spare :: .ref m_kept :: .ref m_undone :: .ref m_triedWay :: .ref m_isKept :: .int i_undoMany :: .ref m_tape :: .int i_length :: .int i_size :: .int i_p :: .int i_at :: .int i_token :: .int i_number :: .int i_letterMany :: .int i_fault :: .int i_faultAt :: .ref m_letters :: .int i_isKnown :: .ref m_choice :: .ref m_row :: .ref m_up :: .ref m_low :: .ref m_m :: .ref m_bestUp :: .ref m_bestLow :: .ref m_replyUp :: .ref m_replyLow :: .ref m_worthUp :: .ref m_worthLow :: .ref m_bestWay :: .int i_seed :: .ref m_told :: .int i_toldMany :: []))), (m_s, .inl (g 0, 193, .inl sf))] s.heap := hP
  refine W.eq (g2 := entryFrame m ([.ref mm] : List Value).toArray 1) (by rw [ha]) ?_
  have hl := lv_entry ([.ref mm]) (n := 1) (Nat.le_of_ble_eq_true rfl)
  rw [lg_entry_eq]
  generalize (lg_sl ([.ref mm]) ++ List.replicate (1 - (lg_sl ([.ref mm])).length) Slot.unset).toArray = ls at hl ⊢
  have hl : lv_has ls 1 [(0, .ref mm)] := hl
  have gn9 := hG.r.1
  refine lv_iconst (v := 1) hx hb dX12_all_0 (by decide) ?_
  refine lv_aload_n hx hb dX12_all_1 rfl (lv_at hl 0 rfl) ?_
  refine va_get (D := D) (ci := 12) (v := .ref m_s) (C := RX12) (T := TX12) (N := 35) hx hb hts inlX12 hown hK hP 0 rfl rfl 1 (by decide) (hts (Cond.fieldLink RX12 13 "ChanceRingsModel" "s" "[I") qw_73) (fun _ h9 => h9) rfl dX12_all_2 ?_
  refine lv_iconst (v := 0) hx hb dX12_all_5 (by decide) ?_
  refine va_iald hx hb hK hP 1 0 rfl rfl (tz_in (by decide +kernel)) dX12_all_6 ?_
  refine lv_topi (fun v_45112 v_45112_e => ?_)
  have h_v_45112 : 0 ≤ (v_45112 : Int32).toInt ∧ (v_45112 : Int32).toInt ≤ 12 := by rw [v_45112_e]; exact gr_nodes hG.r (⟨by decide, by decide⟩ : 0 ≤ (0 : Int32).toInt ∧ (0 : Int32).toInt ≤ 0)
  have g_v_45112 : v_45112 = sf (0) := v_45112_e.trans (congrArg sf rfl)
  have gi_v_45112 := congrArg Int32.toInt g_v_45112
  refine lv_ishl hx hb dX12_all_7 ?_
  refine lv_topi (fun v_45113 v_45113_e => ?_)
  have h_45114 : 1 ≤ (v_45113 : Int32).toInt ∧ (v_45113 : Int32).toInt ≤ 4096 := by rw [v_45113_e]; exact tr_shl13 h_v_45112
  have b1_9 : (v_45113 : Int32).toInt = (bit1 (sf 0).toInt.toNat).toInt := congrArg Int32.toInt (bit1_at v_45113_e (by have q8 := gi_v_45112; omega))
  refine lv_iconst (v := 1) hx hb dX12_all_8 (by decide) ?_
  refine lv_isub hx hb dX12_all_9 ?_
  refine lv_topi (fun v_45115 v_45115_e => ?_)
  have h_v_45115 : 0 ≤ (v_45115 : Int32).toInt ∧ (v_45115 : Int32).toInt ≤ 4095 := by rw [v_45115_e]; exact tr_sub h_45114 (⟨by decide, by decide⟩ : 1 ≤ (1 : Int32).toInt ∧ (1 : Int32).toInt ≤ 1) (by decide) (by decide) (by decide) (by decide)
  have q_v_45115 : v_45115.toInt = v_45113.toInt - 1 := by rw [v_45115_e]; exact tr_subE h_45114 (⟨by decide, by decide⟩ : 1 ≤ (1 : Int32).toInt ∧ (1 : Int32).toInt ≤ 1) (by decide) (by decide)
  exact W.iret (v := v_45115) hx hb hr (fun t ht hW => ⟨v_45115, rfl, ⟨(tr_w h_v_45115 (by decide) (by decide)), (by have z_1 := tk_1; omega)⟩, ht⟩) (fun _ h => nomatch h) dX12_all_10
set_option maxHeartbeats 4000000 in
set_option maxRecDepth 100000 in
theorem c_X12_forced (l : Launch) (D : va_G) (g : Nat → ClassId) (sz : Nat) (mm : Nat) (p0 : Int32) (p1 : Int32) (i_thrown : Int32) (m_s : Nat) (m_spare : Nat) (m_kept : Nat) (m_undone : Nat) (m_triedWay : Nat) (m_isKept : Nat) (i_undoMany : Int32) (m_tape : Nat) (i_length : Int32) (i_size : Int32) (i_p : Int32) (i_at : Int32) (i_token : Int32) (i_number : Int32) (i_letterMany : Int32) (i_fault : Int32) (i_faultAt : Int32) (m_letters : Nat) (i_isKnown : Int32) (m_choice : Nat) (m_row : Nat) (m_up : Nat) (m_low : Nat) (m_m : Nat) (m_bestUp : Nat) (m_bestLow : Nat) (m_replyUp : Nat) (m_replyLow : Nat) (m_worthUp : Nat) (m_worthLow : Nat) (m_bestWay : Nat) (i_seed : Int32) (m_told : Nat) (i_toldMany : Int32) (sf : Nat → Int32) (h_i_undoMany : 0 ≤ (i_undoMany : Int32).toInt ∧ (i_undoMany : Int32).toInt ≤ 8) (h_i_length : 0 ≤ (i_length : Int32).toInt ∧ (i_length : Int32).toInt ≤ 440) (h_i_size : 0 ≤ (i_size : Int32).toInt ∧ (i_size : Int32).toInt ≤ 440) (h_i_p : 0 ≤ (i_p : Int32).toInt ∧ (i_p : Int32).toInt ≤ 440) (h_i_at : 0 ≤ (i_at : Int32).toInt ∧ (i_at : Int32).toInt ≤ 440) (h_i_token : 0 ≤ (i_token : Int32).toInt ∧ (i_token : Int32).toInt ≤ 4) (h_i_number : 0 ≤ (i_number : Int32).toInt ∧ (i_number : Int32).toInt ≤ 814) (h_i_letterMany : (-440) ≤ (i_letterMany : Int32).toInt ∧ (i_letterMany : Int32).toInt ≤ 440) (h_i_faultAt : 0 ≤ (i_faultAt : Int32).toInt ∧ (i_faultAt : Int32).toInt ≤ 440) (h_i_isKnown : 0 ≤ (i_isKnown : Int32).toInt ∧ (i_isKnown : Int32).toInt ≤ 1) (h_i_toldMany : 0 ≤ (i_toldMany : Int32).toInt ∧ (i_toldMany : Int32).toInt ≤ 900) (hG : GS sf) : Met l yX12_forced (.code yX12_forced cX12_forced 8 (some .int) :: wsL_law) ({ frames := 2, cells := 0, slots := 0, locals := 45 }) (va_Pc [.ref mm, .int p0, .int p1] (fun U => U.heap.size = sz ∧ va_P D vwCl [(mm, .inr (12, (.int i_thrown :: .ref m_s :: .ref m_spare :: .ref m_kept :: .ref m_undone :: .ref m_triedWay :: .ref m_isKept :: .int i_undoMany :: .ref m_tape :: .int i_length :: .int i_size :: .int i_p :: .int i_at :: .int i_token :: .int i_number :: .int i_letterMany :: .int i_fault :: .int i_faultAt :: .ref m_letters :: .int i_isKnown :: .ref m_choice :: .ref m_row :: .ref m_up :: .ref m_low :: .ref m_m :: .ref m_bestUp :: .ref m_bestLow :: .ref m_replyUp :: .ref m_replyLow :: .ref m_worthUp :: .ref m_worthLow :: .ref m_bestWay :: .int i_seed :: .ref m_told :: .int i_toldMany :: []))), (m_s, .inl (g 0, 193, .inl sf))] U.heap ∧ va_K D vwCl (TY g) U ∧ va_D (fun _ => True) [(mm, .inr (12, (.int i_thrown :: .ref m_s :: .ref m_spare :: .ref m_kept :: .ref m_undone :: .ref m_triedWay :: .ref m_isKept :: .int i_undoMany :: .ref m_tape :: .int i_length :: .int i_size :: .int i_p :: .int i_at :: .int i_token :: .int i_number :: .int i_letterMany :: .int i_fault :: .int i_faultAt :: .ref m_letters :: .int i_isKnown :: .ref m_choice :: .ref m_row :: .ref m_up :: .ref m_low :: .ref m_m :: .ref m_bestUp :: .ref m_bestLow :: .ref m_replyUp :: .ref m_replyLow :: .ref m_worthUp :: .ref m_worthLow :: .ref m_bestWay :: .int i_seed :: .ref m_told :: .int i_toldMany :: []))), (m_s, .inl (g 0, 193, .inl sf))])) (va_Qi (fun r (_ : Unit) => (True) ∧ (((((p0 : Int32).toInt = 1 ∨ (p0 : Int32).toInt = 2) ∧ 0 ≤ (p1 : Int32).toInt ∧ (p1 : Int32).toInt < (bit1 (sf 0).toInt.toNat).toInt) → ∃ i : Nat, (r : Int32) = itF (p0 : Int32).toInt (fun p => (sf (1 + p)).toInt) (fun p => ahF (sf (109 + p)).toInt (fun i => sf (37 + 3 * p + i)) (sf (25 + p)).toInt.toNat) (sf 0).toInt.toNat p1 i ∧ 1 ≤ i ∧ itF (p0 : Int32).toInt (fun p => (sf (1 + p)).toInt) (fun p => ahF (sf (109 + p)).toInt (fun i => sf (37 + 3 * p + i)) (sf (25 + p)).toInt.toNat) (sf 0).toInt.toNat p1 i = itF (p0 : Int32).toInt (fun p => (sf (1 + p)).toInt) (fun p => ahF (sf (109 + p)).toInt (fun i => sf (37 + 3 * p + i)) (sf (25 + p)).toInt.toNat) (sf 0).toInt.toNat p1 (i - 1)) ∧ (¬ (((p0 : Int32).toInt = 1 ∨ (p0 : Int32).toInt = 2) ∧ 0 ≤ (p1 : Int32).toInt ∧ (p1 : Int32).toInt < (bit1 (sf 0).toInt.toNat).toInt) → (r : Int32).toInt = -1))) (fun _ t => ∃ o_thrown : Int32, va_P D vwCl [(mm, .inr (12, (.int o_thrown :: .ref m_s :: .ref m_spare :: .ref m_kept :: .ref m_undone :: .ref m_triedWay :: .ref m_isKept :: .int i_undoMany :: .ref m_tape :: .int i_length :: .int i_size :: .int i_p :: .int i_at :: .int i_token :: .int i_number :: .int i_letterMany :: .int i_fault :: .int i_faultAt :: .ref m_letters :: .int i_isKnown :: .ref m_choice :: .ref m_row :: .ref m_up :: .ref m_low :: .ref m_m :: .ref m_bestUp :: .ref m_bestLow :: .ref m_replyUp :: .ref m_replyLow :: .ref m_worthUp :: .ref m_worthLow :: .ref m_bestWay :: .int i_seed :: .ref m_told :: .int i_toldMany :: []))), (m_s, .inl (g 0, 193, .inl sf))] t.heap ∧ va_D (va_A [(mm, .inr (12, (.int i_thrown :: .ref m_s :: .ref m_spare :: .ref m_kept :: .ref m_undone :: .ref m_triedWay :: .ref m_isKept :: .int i_undoMany :: .ref m_tape :: .int i_length :: .int i_size :: .int i_p :: .int i_at :: .int i_token :: .int i_number :: .int i_letterMany :: .int i_fault :: .int i_faultAt :: .ref m_letters :: .int i_isKnown :: .ref m_choice :: .ref m_row :: .ref m_up :: .ref m_low :: .ref m_m :: .ref m_bestUp :: .ref m_bestLow :: .ref m_replyUp :: .ref m_replyLow :: .ref m_worthUp :: .ref m_worthLow :: .ref m_bestWay :: .int i_seed :: .ref m_told :: .int i_toldMany :: []))), (m_s, .inl (g 0, 193, .inl sf))] sz) [(mm, .inr (12, (.int o_thrown :: .ref m_s :: .ref m_spare :: .ref m_kept :: .ref m_undone :: .ref m_triedWay :: .ref m_isKept :: .int i_undoMany :: .ref m_tape :: .int i_length :: .int i_size :: .int i_p :: .int i_at :: .int i_token :: .int i_number :: .int i_letterMany :: .int i_fault :: .int i_faultAt :: .ref m_letters :: .int i_isKnown :: .ref m_choice :: .ref m_row :: .ref m_up :: .ref m_low :: .ref m_m :: .ref m_bestUp :: .ref m_bestLow :: .ref m_replyUp :: .ref m_replyLow :: .ref m_worthUp :: .ref m_worthLow :: .ref m_bestWay :: .int i_seed :: .ref m_told :: .int i_toldMany :: []))), (m_s, .inl (g 0, 193, .inl sf))]) (va_A [(mm, .inr (12, (.int i_thrown :: .ref m_s :: .ref m_spare :: .ref m_kept :: .ref m_undone :: .ref m_triedWay :: .ref m_isKept :: .int i_undoMany :: .ref m_tape :: .int i_length :: .int i_size :: .int i_p :: .int i_at :: .int i_token :: .int i_number :: .int i_letterMany :: .int i_fault :: .int i_faultAt :: .ref m_letters :: .int i_isKnown :: .ref m_choice :: .ref m_row :: .ref m_up :: .ref m_low :: .ref m_m :: .ref m_bestUp :: .ref m_bestLow :: .ref m_replyUp :: .ref m_replyLow :: .ref m_worthUp :: .ref m_worthLow :: .ref m_bestWay :: .int i_seed :: .ref m_told :: .int i_toldMany :: []))), (m_s, .inl (g 0, 193, .inl sf))] sz)) 0 0 (va_A [(mm, .inr (12, (.int i_thrown :: .ref m_s :: .ref m_spare :: .ref m_kept :: .ref m_undone :: .ref m_triedWay :: .ref m_isKept :: .int i_undoMany :: .ref m_tape :: .int i_length :: .int i_size :: .int i_p :: .int i_at :: .int i_token :: .int i_number :: .int i_letterMany :: .int i_fault :: .int i_faultAt :: .ref m_letters :: .int i_isKnown :: .ref m_choice :: .ref m_row :: .ref m_up :: .ref m_low :: .ref m_m :: .ref m_bestUp :: .ref m_bestLow :: .ref m_replyUp :: .ref m_replyLow :: .ref m_worthUp :: .ref m_worthLow :: .ref m_bestWay :: .int i_seed :: .ref m_told :: .int i_toldMany :: []))), (m_s, .inl (g 0, 193, .inl sf))] sz) := by
  refine Met.ofW (cc := cX12_forced) (maxL := 8) (ret := (some .int)) (by decide) rfl ?_
  intro p e s m args below meth c s₁ B hml hv
  obtain ⟨ha, hsz, hP, hK, hD0⟩ := hv
  have hx := B.exec
  have hb := B.bytes
  have hr := B.returns
  have hts0 := atoms_spec (ws := (.code yX12_forced cX12_forced 8 (some .int) :: wsL_law)) B.pre
  have hts : ∀ w ∈ wsL_law, w.before args s = true := fun w h => hts0 w (List.mem_cons_of_mem _ h)
  have hown : s.vm.findClass RX12 = some m.cls := findClass_of_methodNamed B.named
  have hlocks := B.notSynchronized
  subst hsz
  have hD := hD0.self (sz := s.heap.size)
  generalize hAe : va_A [(mm, .inr (12, (.int i_thrown :: .ref m_s :: .ref m_spare :: .ref m_kept :: .ref m_undone :: .ref m_triedWay :: .ref m_isKept :: .int i_undoMany :: .ref m_tape :: .int i_length :: .int i_size :: .int i_p :: .int i_at :: .int i_token :: .int i_number :: .int i_letterMany :: .int i_fault :: .int i_faultAt :: .ref m_letters :: .int i_isKnown :: .ref m_choice :: .ref m_row :: .ref m_up :: .ref m_low :: .ref m_m :: .ref m_bestUp :: .ref m_bestLow :: .ref m_replyUp :: .ref m_replyLow :: .ref m_worthUp :: .ref m_worthLow :: .ref m_bestWay :: .int i_seed :: .ref m_told :: .int i_toldMany :: []))), (m_s, .inl (g 0, 193, .inl sf))] s.heap.size = A at hD ⊢
  have hA : ∀ q : Nat, s.heap.size ≤ q → A q := fun q h => by rw [← hAe]; exact Or.inr h
  have hS : va_S A s.heap s.heap [] := va_S.rf
  have hP : va_P D vwCl [(mm, .inr (12, (.int i_thrown :: .ref m_s :: .ref m_spare :: .ref m_kept :: .ref m_undone :: .ref m_triedWay :: .ref m_isKept :: .int i_undoMany :: .ref m_tape :: .int i_length :: .int i_size :: .int i_p :: .int i_at :: .int i_token :: .int i_number :: .int i_letterMany :: .int i_fault :: .int i_faultAt :: .ref m_letters :: .int i_isKnown :: .ref m_choice :: .ref m_row :: .ref m_up :: .ref m_low :: .ref m_m :: .ref m_bestUp :: .ref m_bestLow :: .ref m_replyUp :: .ref m_replyLow :: .ref m_worthUp :: .ref m_worthLow :: .ref m_bestWay :: .int i_seed :: .ref m_told :: .int i_toldMany :: []))), (m_s, .inl (g 0, 193, .inl sf))] s.heap := hP
  refine W.eq (g2 := entryFrame m ([.ref mm, .int p0, .int p1] : List Value).toArray 8) (by rw [ha]) ?_
  have hl := lv_entry ([.ref mm, .int p0, .int p1]) (n := 8) (Nat.le_of_ble_eq_true rfl)
  rw [lg_entry_eq]
  generalize (lg_sl ([.ref mm, .int p0, .int p1]) ++ List.replicate (8 - (lg_sl ([.ref mm, .int p0, .int p1])).length) Slot.unset).toArray = ls at hl ⊢
  have hl : lv_has ls 8 [(0, .ref mm), (1, .int p0), (2, .int p1)] := hl
  have gn9 := hG.r.1
  refine lv_aload_n hx hb dX12_forced_0 rfl (lv_at hl 0 rfl) ?_
  refine lv_iconst (v := 0) hx hb dX12_forced_1 (by decide) ?_
  refine va_put (D := D) (ci := 12) (v := .int 0) (ty := .int) (C := RX12) (T := TX12) (N := 35) hx hb hts inlX12 tyX12 tyX12_ok nmX12 hown hK hP hD hS 0 rfl rfl 0 (by decide) (hts (Cond.fieldLink RX12 1 "ChanceRingsModel" "thrown" "I") qw_0) (fun _ h9 => h9) rfl (by decide +kernel) rfl rfl (Nat.le_of_ble_eq_true rfl) dX12_forced_2 (fun H locs hP hD hS => ?_)
  have hP : va_P D vwCl [(mm, .inr (12, (.int 0 :: .ref m_s :: .ref m_spare :: .ref m_kept :: .ref m_undone :: .ref m_triedWay :: .ref m_isKept :: .int i_undoMany :: .ref m_tape :: .int i_length :: .int i_size :: .int i_p :: .int i_at :: .int i_token :: .int i_number :: .int i_letterMany :: .int i_fault :: .int i_faultAt :: .ref m_letters :: .int i_isKnown :: .ref m_choice :: .ref m_row :: .ref m_up :: .ref m_low :: .ref m_m :: .ref m_bestUp :: .ref m_bestLow :: .ref m_replyUp :: .ref m_replyLow :: .ref m_worthUp :: .ref m_worthLow :: .ref m_bestWay :: .int i_seed :: .ref m_told :: .int i_toldMany :: []))), (m_s, .inl (g 0, 193, .inl sf))] H := hP
  have hD : va_D A [(mm, .inr (12, (.int 0 :: .ref m_s :: .ref m_spare :: .ref m_kept :: .ref m_undone :: .ref m_triedWay :: .ref m_isKept :: .int i_undoMany :: .ref m_tape :: .int i_length :: .int i_size :: .int i_p :: .int i_at :: .int i_token :: .int i_number :: .int i_letterMany :: .int i_fault :: .int i_faultAt :: .ref m_letters :: .int i_isKnown :: .ref m_choice :: .ref m_row :: .ref m_up :: .ref m_low :: .ref m_m :: .ref m_bestUp :: .ref m_bestLow :: .ref m_replyUp :: .ref m_replyLow :: .ref m_worthUp :: .ref m_worthLow :: .ref m_bestWay :: .int i_seed :: .ref m_told :: .int i_toldMany :: []))), (m_s, .inl (g 0, 193, .inl sf))] := hD
  refine lv_iload_n hx hb dX12_forced_5 rfl (lv_at hl 1 rfl) ?_
  refine lv_iconst (v := 1) hx hb dX12_forced_6 (by decide) ?_
  refine lv_iconst (v := 2) hx hb dX12_forced_7 (by decide) ?_
  have hPc := hP.sub (ws' := []) [] rfl
  refine vp_callSi (va_Run.run (va_runS (As := [.int p0, .int 1, .int 2]) (rest := []) ⟨hx, hb, hml, hown, hts⟩ (c_X12_isIn l D g p0 1 2) (va_cwS 3 hts (tz_gS qw_1 qw_2 qw_3 qw_4) rfl rfl rfl (by decide +kernel) ⟨Nat.le_of_ble_eq_true rfl, Nat.le_of_ble_eq_true rfl⟩) ⟨tz_blS, tz_preS hPc hK⟩ rfl rfl hl.1 rfl (lv_room (Nat.le_of_ble_eq_true rfl)) dX12_forced_8 ⟨Nat.le_of_ble_eq_true rfl, Nat.le_of_ble_eq_true rfl⟩)) (fun r_45116 hw => ?_)
  have kk_1 := tk_1
  have kk_2 := tk_2
  have hw_45117 : 0 ≤ (r_45116 : Int32).toInt ∧ (r_45116 : Int32).toInt ≤ 1 := hw.1
  have hw_45117_p0 : Hide (¬ (r_45116 : Int32).toInt = 0 → (1 : Int32).toInt ≤ (p0 : Int32).toInt ∧ (p0 : Int32).toInt ≤ (2 : Int32).toInt) := hw.2.1
  have hw_45117_p1 : Hide ((r_45116 : Int32).toInt = 0 → (p0 : Int32).toInt < (1 : Int32).toInt ∨ (2 : Int32).toInt < (p0 : Int32).toInt) := hw.2.2
  refine lv_if_eq (tgt := 26) hx hb dX12_forced_11 (by decide) (fun c_45118 => ?_) (fun c_45118 => ?_)
  · skip
    have kk_0 := tk_0
    have c_45118_i := c_45118
    have c_45118_i : (r_45116 : Int32).toInt = (0 : Int32).toInt := congrArg Int32.toInt c_45118
    have hw_45117_p1_u := (hw_45117_p1).get (c_45118_i.trans tk_0)
    have c_45118_i := c_45118
    have c_45118_i : (r_45116 : Int32).toInt = (0 : Int32).toInt := congrArg Int32.toInt c_45118
    have h_45119 : 0 ≤ (r_45116 : Int32).toInt ∧ (r_45116 : Int32).toInt ≤ 0 := by have q1 := hw_45117; have q2 := (⟨by decide, by decide⟩ : 0 ≤ (0 : Int32).toInt ∧ (0 : Int32).toInt ≤ 0); omega
    refine lv_iconst (v := (-1)) hx hb dX12_forced_26 (by decide) ?_
    have hP9 := hP.sub (ws' := [(mm, .inr (12, (.int 0 :: .ref m_s :: .ref m_spare :: .ref m_kept :: .ref m_undone :: .ref m_triedWay :: .ref m_isKept :: .int i_undoMany :: .ref m_tape :: .int i_length :: .int i_size :: .int i_p :: .int i_at :: .int i_token :: .int i_number :: .int i_letterMany :: .int i_fault :: .int i_faultAt :: .ref m_letters :: .int i_isKnown :: .ref m_choice :: .ref m_row :: .ref m_up :: .ref m_low :: .ref m_m :: .ref m_bestUp :: .ref m_bestLow :: .ref m_replyUp :: .ref m_replyLow :: .ref m_worthUp :: .ref m_worthLow :: .ref m_bestWay :: .int i_seed :: .ref m_told :: .int i_toldMany :: []))), (m_s, .inl (g 0, 193, .inl sf))]) [0, 1] rfl
    have hD9 := hD.sub (ws' := [(mm, .inr (12, (.int 0 :: .ref m_s :: .ref m_spare :: .ref m_kept :: .ref m_undone :: .ref m_triedWay :: .ref m_isKept :: .int i_undoMany :: .ref m_tape :: .int i_length :: .int i_size :: .int i_p :: .int i_at :: .int i_token :: .int i_number :: .int i_letterMany :: .int i_fault :: .int i_faultAt :: .ref m_letters :: .int i_isKnown :: .ref m_choice :: .ref m_row :: .ref m_up :: .ref m_low :: .ref m_m :: .ref m_bestUp :: .ref m_bestLow :: .ref m_replyUp :: .ref m_replyLow :: .ref m_worthUp :: .ref m_worthLow :: .ref m_bestWay :: .int i_seed :: .ref m_told :: .int i_toldMany :: []))), (m_s, .inl (g 0, 193, .inl sf))]) [0, 1] (by decide) rfl
    exact W.iret (v := (-1)) hx hb hr (fun t ht hW => ⟨⟨(-1), (), rfl, ⟨trivial, ⟨fun h9 => absurd h9 (by have z_0 := tk_0; have z_1 := tk_1; have z_2 := tk_2; have z_m := tk_m1; omega), fun _ => tk_m1⟩⟩, 0, by rw [ht]; exact hP9, hD9⟩, hS.F ht⟩) hS.2.2 dX12_forced_27
  · skip
    have kk_0 := tk_0
    have c_45118_i := c_45118
    have c_45118_i : ¬ (r_45116 : Int32).toInt = (0 : Int32).toInt := (fun q => c_45118 (Int32.toInt_inj.mp q))
    have hw_45117_p0_u := (hw_45117_p0).get (fun q => c_45118_i (q.trans tk_0.symm))
    have c_45118_i := c_45118
    have c_45118_i : ¬ (r_45116 : Int32).toInt = (0 : Int32).toInt := (fun q => c_45118 (Int32.toInt_inj.mp q))
    have h_45120 : 1 ≤ (r_45116 : Int32).toInt ∧ (r_45116 : Int32).toInt ≤ 1 := by have q1 := hw_45117; have q2 := (⟨by decide, by decide⟩ : 0 ≤ (0 : Int32).toInt ∧ (0 : Int32).toInt ≤ 0); omega
    refine lv_iload_n hx hb dX12_forced_14 rfl (lv_at hl 2 rfl) ?_
    refine lv_iconst (v := 0) hx hb dX12_forced_15 (by decide) ?_
    refine lv_aload_n hx hb dX12_forced_16 rfl (lv_at hl 0 rfl) ?_
    have hPc := hP.sub (ws' := [(mm, .inr (12, (.int 0 :: .ref m_s :: .ref m_spare :: .ref m_kept :: .ref m_undone :: .ref m_triedWay :: .ref m_isKept :: .int i_undoMany :: .ref m_tape :: .int i_length :: .int i_size :: .int i_p :: .int i_at :: .int i_token :: .int i_number :: .int i_letterMany :: .int i_fault :: .int i_faultAt :: .ref m_letters :: .int i_isKnown :: .ref m_choice :: .ref m_row :: .ref m_up :: .ref m_low :: .ref m_m :: .ref m_bestUp :: .ref m_bestLow :: .ref m_replyUp :: .ref m_replyLow :: .ref m_worthUp :: .ref m_worthLow :: .ref m_bestWay :: .int i_seed :: .ref m_told :: .int i_toldMany :: []))), (m_s, .inl (g 0, 193, .inl sf))]) [0, 1] rfl
    refine vp_callSi (va_Run.run (va_runV (As := []) (rest := [.int 0, .int p1]) ⟨hx, hb, hml, hown, hts⟩ (c_X12_allN l D g mm 0 m_s m_spare m_kept m_undone m_triedWay m_isKept i_undoMany m_tape i_length i_size i_p i_at i_token i_number i_letterMany i_fault i_faultAt m_letters i_isKnown m_choice m_row m_up m_low m_m m_bestUp m_bestLow m_replyUp m_replyLow m_worthUp m_worthLow m_bestWay i_seed m_told i_toldMany sf (tr_w h_i_undoMany (by decide) (by decide)) (tr_w h_i_length (by decide) (by decide)) (tr_w h_i_size (by decide) (by decide)) (tr_w h_i_p (by decide) (by decide)) (tr_w h_i_at (by decide) (by decide)) (tr_w h_i_token (by decide) (by decide)) (tr_w h_i_number (by decide) (by decide)) (tr_w h_i_letterMany (by decide) (by decide)) (tr_w h_i_faultAt (by decide) (by decide)) (tr_w h_i_isKnown (by decide) (by decide)) (tr_w h_i_toldMany (by decide) (by decide)) hG) (cwV 0 hts (tz_gV qw_221 qw_222 qw_223 qw_3 qw_224) rfl rfl rfl (by decide +kernel) ⟨Nat.le_of_ble_eq_true rfl, Nat.le_of_ble_eq_true rfl⟩) ⟨tz_blS, va_recv hK hPc (ci := 12) (q0 := 0) rfl rfl, tz_preS hPc hK⟩ rfl rfl hl.1 rfl (lv_room (Nat.le_of_ble_eq_true rfl)) dX12_forced_17 ⟨Nat.le_of_ble_eq_true rfl, Nat.le_of_ble_eq_true rfl⟩)) (fun r_45121 hw => ?_)
    have hw_45122 : 0 ≤ (r_45121 : Int32).toInt ∧ (r_45121 : Int32).toInt ≤ 4095 := hw.1
    have hw_45122_p0 : (r_45121 : Int32).toInt = (bit1 (sf 0).toInt.toNat).toInt - 1 := hw.2
    have hPc := hP.sub (ws' := []) [] rfl
    refine vp_callSi (va_Run.run (va_runS (As := [.int p1, .int 0, .int r_45121]) (rest := []) ⟨hx, hb, hml, hown, hts⟩ (c_X12_isIn l D g p1 0 r_45121) (va_cwS 3 hts (tz_gS qw_1 qw_2 qw_3 qw_4) rfl rfl rfl (by decide +kernel) ⟨Nat.le_of_ble_eq_true rfl, Nat.le_of_ble_eq_true rfl⟩) ⟨tz_blS, tz_preS hPc hK⟩ rfl rfl hl.1 rfl (lv_room (Nat.le_of_ble_eq_true rfl)) dX12_forced_20 ⟨Nat.le_of_ble_eq_true rfl, Nat.le_of_ble_eq_true rfl⟩)) (fun r_45123 hw => ?_)
    have hw_45124 : 0 ≤ (r_45123 : Int32).toInt ∧ (r_45123 : Int32).toInt ≤ 1 := hw.1
    have hw_45124_p0 : Hide (¬ (r_45123 : Int32).toInt = 0 → (0 : Int32).toInt ≤ (p1 : Int32).toInt ∧ (p1 : Int32).toInt ≤ (r_45121 : Int32).toInt) := hw.2.1
    have hw_45124_p1 : Hide ((r_45123 : Int32).toInt = 0 → (p1 : Int32).toInt < (0 : Int32).toInt ∨ (r_45121 : Int32).toInt < (p1 : Int32).toInt) := hw.2.2
    refine lv_if_ne (tgt := 28) hx hb dX12_forced_23 (by decide) (fun c_45125 => ?_) (fun c_45125 => ?_)
    · skip
      have c_45125_i := c_45125
      have c_45125_i : ¬ (r_45123 : Int32).toInt = (0 : Int32).toInt := (fun q => c_45125 (Int32.toInt_inj.mp q))
      have hw_45124_p0_u := (hw_45124_p0).get (fun q => c_45125_i (q.trans tk_0.symm))
      have c_45125_i := c_45125
      have c_45125_i : ¬ (r_45123 : Int32).toInt = (0 : Int32).toInt := (fun q => c_45125 (Int32.toInt_inj.mp q))
      have h_45126 : 1 ≤ (r_45123 : Int32).toInt ∧ (r_45123 : Int32).toInt ≤ 1 := by have q1 := hw_45124; have q2 := (⟨by decide, by decide⟩ : 0 ≤ (0 : Int32).toInt ∧ (0 : Int32).toInt ≤ 0); omega
      have h_45128 : 0 ≤ (p1 : Int32).toInt ∧ (p1 : Int32).toInt ≤ 4095 := by have z_0 := tk_0; omega
      refine lv_iload_n hx hb dX12_forced_28 rfl (lv_at hl 2 rfl) ?_
      refine lv_istore_n (lv' := [(3, .int p1), (0, .ref mm), (1, .int p0), (2, .int p1)]) hx hb dX12_forced_29 rfl hl (by decide) rfl (fun ls hl => ?_)
      refine lv_iconst (v := (-1)) hx hb dX12_forced_30 (by decide) ?_
      refine lv_istore (lv' := [(4, .int (-1)), (3, .int p1), (0, .ref mm), (1, .int p0), (2, .int p1)]) hx hb dX12_forced_31 hl (by decide) rfl (fun ls hl => ?_)
      have lp_45207 : ∀ (n_45207 : Nat) (x_45205 : Int32) (x_45206 : Int32) (H : Heap) (locs : List Loc) (ls : Array Slot), (0 ≤ (x_45205 : Int32).toInt ∧ (x_45205 : Int32).toInt ≤ 4095) → ((-1) ≤ (x_45206 : Int32).toInt ∧ (x_45206 : Int32).toInt ≤ 4095) → (x_45206.toInt ≤ x_45205.toInt) → (∃ j : Nat, (x_45205 : Int32) = itF (p0 : Int32).toInt (fun p => (sf (1 + p)).toInt) (fun p => ahF (sf (109 + p)).toInt (fun i => sf (37 + 3 * p + i)) (sf (25 + p)).toInt.toNat) (sf 0).toInt.toNat p1 j ∧ (1 ≤ j → (x_45206 : Int32) = itF (p0 : Int32).toInt (fun p => (sf (1 + p)).toInt) (fun p => ahF (sf (109 + p)).toInt (fun i => sf (37 + 3 * p + i)) (sf (25 + p)).toInt.toNat) (sf 0).toInt.toNat p1 (j - 1)) ∧ (j = 0 → (x_45206 : Int32).toInt = -1)) → (4095 - x_45206.toInt < (n_45207 : Int)) → va_P D vwCl [(mm, .inr (12, (.int 0 :: .ref m_s :: .ref m_spare :: .ref m_kept :: .ref m_undone :: .ref m_triedWay :: .ref m_isKept :: .int i_undoMany :: .ref m_tape :: .int i_length :: .int i_size :: .int i_p :: .int i_at :: .int i_token :: .int i_number :: .int i_letterMany :: .int i_fault :: .int i_faultAt :: .ref m_letters :: .int i_isKnown :: .ref m_choice :: .ref m_row :: .ref m_up :: .ref m_low :: .ref m_m :: .ref m_bestUp :: .ref m_bestLow :: .ref m_replyUp :: .ref m_replyLow :: .ref m_worthUp :: .ref m_worthLow :: .ref m_bestWay :: .int i_seed :: .ref m_told :: .int i_toldMany :: []))), (m_s, .inl (g 0, 193, .inl sf))] H → va_D A [(mm, .inr (12, (.int 0 :: .ref m_s :: .ref m_spare :: .ref m_kept :: .ref m_undone :: .ref m_triedWay :: .ref m_isKept :: .int i_undoMany :: .ref m_tape :: .int i_length :: .int i_size :: .int i_p :: .int i_at :: .int i_token :: .int i_number :: .int i_letterMany :: .int i_fault :: .int i_faultAt :: .ref m_letters :: .int i_isKnown :: .ref m_choice :: .ref m_row :: .ref m_up :: .ref m_low :: .ref m_m :: .ref m_bestUp :: .ref m_bestLow :: .ref m_replyUp :: .ref m_replyLow :: .ref m_worthUp :: .ref m_worthLow :: .ref m_bestWay :: .int i_seed :: .ref m_told :: .int i_toldMany :: []))), (m_s, .inl (g 0, 193, .inl sf))] → va_S A s.heap H locs → lv_has ls 8 [(4, .int x_45206), (3, .int x_45205), (0, .ref mm), (1, .int p0), (2, .int p1)] → W p l e (headSpec (.code yX12_forced cX12_forced 8 (some .int) :: wsL_law) ({ frames := 2, cells := 0, slots := 0, locals := 45 })).room s m args below meth c H locs 0 0 (MQ below (va_Qi (fun r (_ : Unit) => (True) ∧ (((((p0 : Int32).toInt = 1 ∨ (p0 : Int32).toInt = 2) ∧ 0 ≤ (p1 : Int32).toInt ∧ (p1 : Int32).toInt < (bit1 (sf 0).toInt.toNat).toInt) → ∃ i : Nat, (r : Int32) = itF (p0 : Int32).toInt (fun p => (sf (1 + p)).toInt) (fun p => ahF (sf (109 + p)).toInt (fun i => sf (37 + 3 * p + i)) (sf (25 + p)).toInt.toNat) (sf 0).toInt.toNat p1 i ∧ 1 ≤ i ∧ itF (p0 : Int32).toInt (fun p => (sf (1 + p)).toInt) (fun p => ahF (sf (109 + p)).toInt (fun i => sf (37 + 3 * p + i)) (sf (25 + p)).toInt.toNat) (sf 0).toInt.toNat p1 i = itF (p0 : Int32).toInt (fun p => (sf (1 + p)).toInt) (fun p => ahF (sf (109 + p)).toInt (fun i => sf (37 + 3 * p + i)) (sf (25 + p)).toInt.toNat) (sf 0).toInt.toNat p1 (i - 1)) ∧ (¬ (((p0 : Int32).toInt = 1 ∨ (p0 : Int32).toInt = 2) ∧ 0 ≤ (p1 : Int32).toInt ∧ (p1 : Int32).toInt < (bit1 (sf 0).toInt.toNat).toInt) → (r : Int32).toInt = -1))) (fun _ t => ∃ o_thrown : Int32, va_P D vwCl [(mm, .inr (12, (.int o_thrown :: .ref m_s :: .ref m_spare :: .ref m_kept :: .ref m_undone :: .ref m_triedWay :: .ref m_isKept :: .int i_undoMany :: .ref m_tape :: .int i_length :: .int i_size :: .int i_p :: .int i_at :: .int i_token :: .int i_number :: .int i_letterMany :: .int i_fault :: .int i_faultAt :: .ref m_letters :: .int i_isKnown :: .ref m_choice :: .ref m_row :: .ref m_up :: .ref m_low :: .ref m_m :: .ref m_bestUp :: .ref m_bestLow :: .ref m_replyUp :: .ref m_replyLow :: .ref m_worthUp :: .ref m_worthLow :: .ref m_bestWay :: .int i_seed :: .ref m_told :: .int i_toldMany :: []))), (m_s, .inl (g 0, 193, .inl sf))] t.heap ∧ va_D A [(mm, .inr (12, (.int o_thrown :: .ref m_s :: .ref m_spare :: .ref m_kept :: .ref m_undone :: .ref m_triedWay :: .ref m_isKept :: .int i_undoMany :: .ref m_tape :: .int i_length :: .int i_size :: .int i_p :: .int i_at :: .int i_token :: .int i_number :: .int i_letterMany :: .int i_fault :: .int i_faultAt :: .ref m_letters :: .int i_isKnown :: .ref m_choice :: .ref m_row :: .ref m_up :: .ref m_low :: .ref m_m :: .ref m_bestUp :: .ref m_bestLow :: .ref m_replyUp :: .ref m_replyLow :: .ref m_worthUp :: .ref m_worthLow :: .ref m_bestWay :: .int i_seed :: .ref m_told :: .int i_toldMany :: []))), (m_s, .inl (g 0, 193, .inl sf))]) A) args s 0 0 A) (F0 m 33 ls []) := by
        intro n_45207
        induction n_45207 with
        | zero =>
          intro x_45205 x_45206 H locs ls h_x_45205 h_x_45206 hr45207_0 hr45207_1 hm_45207 hP hD hS hl
          exfalso; omega
        | succ n_45207 ih_45207 =>
          intro x_45205 x_45206 H locs ls h_x_45205 h_x_45206 hr45207_0 hr45207_1 hm_45207 hP hD hS hl
          refine lv_iload hx hb dX12_forced_33 (lv_at hl 0 rfl) ?_
          refine lv_iload_n hx hb dX12_forced_35 rfl (lv_at hl 1 rfl) ?_
          refine lv_icmp_eq (tgt := 143) hx hb dX12_forced_36 (by decide) (fun c_45208 => ?_) (fun c_45208 => ?_)
          · skip
            have c_45208_i := c_45208
            have c_45208_i : (x_45206 : Int32).toInt = (x_45205 : Int32).toInt := congrArg Int32.toInt c_45208
            have c_45208_i := c_45208
            have c_45208_i : (x_45206 : Int32).toInt = (x_45205 : Int32).toInt := congrArg Int32.toInt c_45208
            have h_45209 : 0 ≤ (x_45206 : Int32).toInt ∧ (x_45206 : Int32).toInt ≤ 4095 := by have q1 := h_x_45206; have q2 := h_x_45205; omega
            refine lv_iload_n hx hb dX12_forced_143 rfl (lv_at hl 1 rfl) ?_
            have hP9 := hP.sub (ws' := [(mm, .inr (12, (.int 0 :: .ref m_s :: .ref m_spare :: .ref m_kept :: .ref m_undone :: .ref m_triedWay :: .ref m_isKept :: .int i_undoMany :: .ref m_tape :: .int i_length :: .int i_size :: .int i_p :: .int i_at :: .int i_token :: .int i_number :: .int i_letterMany :: .int i_fault :: .int i_faultAt :: .ref m_letters :: .int i_isKnown :: .ref m_choice :: .ref m_row :: .ref m_up :: .ref m_low :: .ref m_m :: .ref m_bestUp :: .ref m_bestLow :: .ref m_replyUp :: .ref m_replyLow :: .ref m_worthUp :: .ref m_worthLow :: .ref m_bestWay :: .int i_seed :: .ref m_told :: .int i_toldMany :: []))), (m_s, .inl (g 0, 193, .inl sf))]) [0, 1] rfl
            have hD9 := hD.sub (ws' := [(mm, .inr (12, (.int 0 :: .ref m_s :: .ref m_spare :: .ref m_kept :: .ref m_undone :: .ref m_triedWay :: .ref m_isKept :: .int i_undoMany :: .ref m_tape :: .int i_length :: .int i_size :: .int i_p :: .int i_at :: .int i_token :: .int i_number :: .int i_letterMany :: .int i_fault :: .int i_faultAt :: .ref m_letters :: .int i_isKnown :: .ref m_choice :: .ref m_row :: .ref m_up :: .ref m_low :: .ref m_m :: .ref m_bestUp :: .ref m_bestLow :: .ref m_replyUp :: .ref m_replyLow :: .ref m_worthUp :: .ref m_worthLow :: .ref m_bestWay :: .int i_seed :: .ref m_told :: .int i_toldMany :: []))), (m_s, .inl (g 0, 193, .inl sf))]) [0, 1] (by decide) rfl
            exact W.iret (v := x_45205) hx hb hr (fun t ht hW => ⟨⟨x_45205, (), rfl, ⟨trivial, ⟨fun _ => hr45207_1.elim (fun j z => fo_exit2 z.1 z.2.1 z.2.2 (by omega) c_45208.symm), fun h9 => absurd (by have z_0 := tk_0; have z_1 := tk_1; have z_2 := tk_2; have z_m := tk_m1; omega) h9⟩⟩, 0, by rw [ht]; exact hP9, hD9⟩, hS.F ht⟩) hS.2.2 dX12_forced_144
          · skip
            have c_45208_i := c_45208
            have c_45208_i : ¬ (x_45206 : Int32).toInt = (x_45205 : Int32).toInt := (fun q => c_45208 (Int32.toInt_inj.mp q))
            refine lv_iload_n hx hb dX12_forced_39 rfl (lv_at hl 1 rfl) ?_
            refine lv_istore (lv' := [(4, .int x_45205), (3, .int x_45205), (0, .ref mm), (1, .int p0), (2, .int p1)]) hx hb dX12_forced_40 hl (by decide) rfl (fun ls hl => ?_)
            refine lv_iconst (v := 0) hx hb dX12_forced_42 (by decide) ?_
            refine lv_istore (lv' := [(5, .int 0), (4, .int x_45205), (3, .int x_45205), (0, .ref mm), (1, .int p0), (2, .int p1)]) hx hb dX12_forced_43 hl (by decide) rfl (fun ls hl => ?_)
            have lp_45248 : ∀ (n_45248 : Nat) (x_45246 : Int32) (x_45247 : Int32) (H : Heap) (locs : List Loc) (ls : Array Slot), (0 ≤ (x_45246 : Int32).toInt ∧ (x_45246 : Int32).toInt ≤ 4095) → (0 ≤ (x_45247 : Int32).toInt ∧ (x_45247 : Int32).toInt ≤ 12) → (x_45205.toInt ≤ x_45246.toInt) → (x_45247.toInt ≤ (sf 0).toInt) → ((x_45246 : Int32) = swF (p0 : Int32).toInt (fun p => (sf (1 + p)).toInt) (fun p => ahF (sf (109 + p)).toInt (fun i => sf (37 + 3 * p + i)) (sf (25 + p)).toInt.toNat) x_45205 x_45247.toInt.toNat ∧ ∃ j : Nat, (x_45205 : Int32) = itF (p0 : Int32).toInt (fun p => (sf (1 + p)).toInt) (fun p => ahF (sf (109 + p)).toInt (fun i => sf (37 + 3 * p + i)) (sf (25 + p)).toInt.toNat) (sf 0).toInt.toNat p1 j) → (12 - x_45247.toInt < (n_45248 : Int)) → va_P D vwCl [(mm, .inr (12, (.int 0 :: .ref m_s :: .ref m_spare :: .ref m_kept :: .ref m_undone :: .ref m_triedWay :: .ref m_isKept :: .int i_undoMany :: .ref m_tape :: .int i_length :: .int i_size :: .int i_p :: .int i_at :: .int i_token :: .int i_number :: .int i_letterMany :: .int i_fault :: .int i_faultAt :: .ref m_letters :: .int i_isKnown :: .ref m_choice :: .ref m_row :: .ref m_up :: .ref m_low :: .ref m_m :: .ref m_bestUp :: .ref m_bestLow :: .ref m_replyUp :: .ref m_replyLow :: .ref m_worthUp :: .ref m_worthLow :: .ref m_bestWay :: .int i_seed :: .ref m_told :: .int i_toldMany :: []))), (m_s, .inl (g 0, 193, .inl sf))] H → va_D A [(mm, .inr (12, (.int 0 :: .ref m_s :: .ref m_spare :: .ref m_kept :: .ref m_undone :: .ref m_triedWay :: .ref m_isKept :: .int i_undoMany :: .ref m_tape :: .int i_length :: .int i_size :: .int i_p :: .int i_at :: .int i_token :: .int i_number :: .int i_letterMany :: .int i_fault :: .int i_faultAt :: .ref m_letters :: .int i_isKnown :: .ref m_choice :: .ref m_row :: .ref m_up :: .ref m_low :: .ref m_m :: .ref m_bestUp :: .ref m_bestLow :: .ref m_replyUp :: .ref m_replyLow :: .ref m_worthUp :: .ref m_worthLow :: .ref m_bestWay :: .int i_seed :: .ref m_told :: .int i_toldMany :: []))), (m_s, .inl (g 0, 193, .inl sf))] → va_S A s.heap H locs → lv_has ls 8 [(5, .int x_45247), (4, .int x_45205), (3, .int x_45246), (0, .ref mm), (1, .int p0), (2, .int p1)] → W p l e (headSpec (.code yX12_forced cX12_forced 8 (some .int) :: wsL_law) ({ frames := 2, cells := 0, slots := 0, locals := 45 })).room s m args below meth c H locs 0 0 (MQ below (va_Qi (fun r (_ : Unit) => (True) ∧ (((((p0 : Int32).toInt = 1 ∨ (p0 : Int32).toInt = 2) ∧ 0 ≤ (p1 : Int32).toInt ∧ (p1 : Int32).toInt < (bit1 (sf 0).toInt.toNat).toInt) → ∃ i : Nat, (r : Int32) = itF (p0 : Int32).toInt (fun p => (sf (1 + p)).toInt) (fun p => ahF (sf (109 + p)).toInt (fun i => sf (37 + 3 * p + i)) (sf (25 + p)).toInt.toNat) (sf 0).toInt.toNat p1 i ∧ 1 ≤ i ∧ itF (p0 : Int32).toInt (fun p => (sf (1 + p)).toInt) (fun p => ahF (sf (109 + p)).toInt (fun i => sf (37 + 3 * p + i)) (sf (25 + p)).toInt.toNat) (sf 0).toInt.toNat p1 i = itF (p0 : Int32).toInt (fun p => (sf (1 + p)).toInt) (fun p => ahF (sf (109 + p)).toInt (fun i => sf (37 + 3 * p + i)) (sf (25 + p)).toInt.toNat) (sf 0).toInt.toNat p1 (i - 1)) ∧ (¬ (((p0 : Int32).toInt = 1 ∨ (p0 : Int32).toInt = 2) ∧ 0 ≤ (p1 : Int32).toInt ∧ (p1 : Int32).toInt < (bit1 (sf 0).toInt.toNat).toInt) → (r : Int32).toInt = -1))) (fun _ t => ∃ o_thrown : Int32, va_P D vwCl [(mm, .inr (12, (.int o_thrown :: .ref m_s :: .ref m_spare :: .ref m_kept :: .ref m_undone :: .ref m_triedWay :: .ref m_isKept :: .int i_undoMany :: .ref m_tape :: .int i_length :: .int i_size :: .int i_p :: .int i_at :: .int i_token :: .int i_number :: .int i_letterMany :: .int i_fault :: .int i_faultAt :: .ref m_letters :: .int i_isKnown :: .ref m_choice :: .ref m_row :: .ref m_up :: .ref m_low :: .ref m_m :: .ref m_bestUp :: .ref m_bestLow :: .ref m_replyUp :: .ref m_replyLow :: .ref m_worthUp :: .ref m_worthLow :: .ref m_bestWay :: .int i_seed :: .ref m_told :: .int i_toldMany :: []))), (m_s, .inl (g 0, 193, .inl sf))] t.heap ∧ va_D A [(mm, .inr (12, (.int o_thrown :: .ref m_s :: .ref m_spare :: .ref m_kept :: .ref m_undone :: .ref m_triedWay :: .ref m_isKept :: .int i_undoMany :: .ref m_tape :: .int i_length :: .int i_size :: .int i_p :: .int i_at :: .int i_token :: .int i_number :: .int i_letterMany :: .int i_fault :: .int i_faultAt :: .ref m_letters :: .int i_isKnown :: .ref m_choice :: .ref m_row :: .ref m_up :: .ref m_low :: .ref m_m :: .ref m_bestUp :: .ref m_bestLow :: .ref m_replyUp :: .ref m_replyLow :: .ref m_worthUp :: .ref m_worthLow :: .ref m_bestWay :: .int i_seed :: .ref m_told :: .int i_toldMany :: []))), (m_s, .inl (g 0, 193, .inl sf))]) A) args s 0 0 A) (F0 m 45 ls []) := by
              intro n_45248
              induction n_45248 with
              | zero =>
                intro x_45246 x_45247 H locs ls h_x_45246 h_x_45247 hr45248_0 hr45248_1 hr45248_2 hm_45248 hP hD hS hl
                exfalso; omega
              | succ n_45248 ih_45248 =>
                intro x_45246 x_45247 H locs ls h_x_45246 h_x_45247 hr45248_0 hr45248_1 hr45248_2 hm_45248 hP hD hS hl
                refine lv_iload hx hb dX12_forced_45 (lv_at hl 0 rfl) ?_
                refine lv_aload_n hx hb dX12_forced_47 rfl (lv_at hl 3 rfl) ?_
                refine va_get (D := D) (ci := 12) (v := .ref m_s) (C := RX12) (T := TX12) (N := 35) hx hb hts inlX12 hown hK hP 0 rfl rfl 1 (by decide) (hts (Cond.fieldLink RX12 13 "ChanceRingsModel" "s" "[I") qw_73) (fun _ h9 => h9) rfl dX12_forced_48 ?_
                refine lv_iconst (v := 0) hx hb dX12_forced_51 (by decide) ?_
                refine va_iald hx hb hK hP 1 0 rfl rfl (tz_in (by decide +kernel)) dX12_forced_52 ?_
                refine lv_topi (fun v_45249 v_45249_e => ?_)
                have h_v_45249 : 0 ≤ (v_45249 : Int32).toInt ∧ (v_45249 : Int32).toInt ≤ 12 := by rw [v_45249_e]; exact gr_nodes hG.r (⟨by decide, by decide⟩ : 0 ≤ (0 : Int32).toInt ∧ (0 : Int32).toInt ≤ 0)
                have g_v_45249 : v_45249 = sf (0) := v_45249_e.trans (congrArg sf rfl)
                have gi_v_45249 := congrArg Int32.toInt g_v_45249
                refine lv_icmp_ge (tgt := 140) hx hb dX12_forced_53 (by decide) (fun c_45250 => ?_) (fun c_45250 => ?_)
                · skip
                  have c_45250_i := Int32.le_iff_toInt_le.mp c_45250
                  refine lv_goto (tgt := 33) hx hb dX12_forced_140 (by decide) ?_
                  exact ih_45207 x_45246 x_45205 H _ ls (tr_w h_x_45246 (by decide) (by decide)) (tr_w h_x_45205 (by decide) (by decide)) (by have z_0 := tk_0; have z_m := tk_m1; omega) (hr45248_2.2.elim (fun j z => ⟨j + 1, it_next hr45248_2.1 z (by have q8 := gi_v_45249; omega) rfl, fun _ => it_prev z (by omega), fun h9 => absurd h9 (Nat.succ_ne_zero j)⟩)) (by omega) (hP.sub [0, 1] rfl) (hD.sub [0, 1] (by decide) rfl) hS (lv_sub hl [1, 2, 3, 4, 5] rfl)
                · skip
                  have c_45250_i := Int32.lt_iff_toInt_lt.mp (Int32.not_le.mp c_45250)
                  have c_45250_i := Int32.lt_iff_toInt_lt.mp (Int32.not_le.mp c_45250)
                  have h_45251 : 0 ≤ (x_45247 : Int32).toInt ∧ (x_45247 : Int32).toInt ≤ 11 := by have q1 := h_x_45247; have q2 := h_v_45249; omega
                  have h_45252 : 1 ≤ (v_45249 : Int32).toInt ∧ (v_45249 : Int32).toInt ≤ 12 := by have q1 := h_x_45247; have q2 := h_v_45249; omega
                  refine lv_aload_n hx hb dX12_forced_56 rfl (lv_at hl 3 rfl) ?_
                  refine lv_iload hx hb dX12_forced_57 (lv_at hl 0 rfl) ?_
                  refine lv_iconst (v := 0) hx hb dX12_forced_59 (by decide) ?_
                  have hPc := hP.sub (ws' := [(mm, .inr (12, (.int 0 :: .ref m_s :: .ref m_spare :: .ref m_kept :: .ref m_undone :: .ref m_triedWay :: .ref m_isKept :: .int i_undoMany :: .ref m_tape :: .int i_length :: .int i_size :: .int i_p :: .int i_at :: .int i_token :: .int i_number :: .int i_letterMany :: .int i_fault :: .int i_faultAt :: .ref m_letters :: .int i_isKnown :: .ref m_choice :: .ref m_row :: .ref m_up :: .ref m_low :: .ref m_m :: .ref m_bestUp :: .ref m_bestLow :: .ref m_replyUp :: .ref m_replyLow :: .ref m_worthUp :: .ref m_worthLow :: .ref m_bestWay :: .int i_seed :: .ref m_told :: .int i_toldMany :: []))), (m_s, .inl (g 0, 193, .inl sf))]) [0, 1] rfl
                  refine vp_callSi (va_Run.run (va_runV (As := [.int x_45247, .int 0]) (rest := []) ⟨hx, hb, hml, hown, hts⟩ (c_X12_isKind l D g mm x_45247 0 0 m_s m_spare m_kept m_undone m_triedWay m_isKept i_undoMany m_tape i_length i_size i_p i_at i_token i_number i_letterMany i_fault i_faultAt m_letters i_isKnown m_choice m_row m_up m_low m_m m_bestUp m_bestLow m_replyUp m_replyLow m_worthUp m_worthLow m_bestWay i_seed m_told i_toldMany sf (tr_w h_45251 (by decide) (by decide)) (tr_w h_i_undoMany (by decide) (by decide)) (tr_w h_i_length (by decide) (by decide)) (tr_w h_i_size (by decide) (by decide)) (tr_w h_i_p (by decide) (by decide)) (tr_w h_i_at (by decide) (by decide)) (tr_w h_i_token (by decide) (by decide)) (tr_w h_i_number (by decide) (by decide)) (tr_w h_i_letterMany (by decide) (by decide)) (tr_w h_i_faultAt (by decide) (by decide)) (tr_w h_i_isKnown (by decide) (by decide)) (tr_w h_i_toldMany (by decide) (by decide)) hG) (cwV 2 hts (tz_gV qw_94 qw_95 qw_96 qw_3 qw_97) rfl rfl rfl (by decide +kernel) ⟨Nat.le_of_ble_eq_true rfl, Nat.le_of_ble_eq_true rfl⟩) ⟨tz_blS, va_recv hK hPc (ci := 12) (q0 := 0) rfl rfl, tz_preS hPc hK⟩ rfl rfl hl.1 rfl (lv_room (Nat.le_of_ble_eq_true rfl)) dX12_forced_60 ⟨Nat.le_of_ble_eq_true rfl, Nat.le_of_ble_eq_true rfl⟩)) (fun r_45253 hw => ?_)
                  have hw_45254 : 0 ≤ (r_45253 : Int32).toInt ∧ (r_45253 : Int32).toInt ≤ 1 := hw.1
                  have hw_45254_p0 : Hide (¬ (r_45253 : Int32).toInt = 0 → (sf (1 + (x_45247 : Int32).toInt.toNat)).toInt = (0 : Int32).toInt) := hw.2.1
                  have hw_45254_p1 : Hide ((r_45253 : Int32).toInt = 0 → ¬ (sf (1 + (x_45247 : Int32).toInt.toNat)).toInt = (0 : Int32).toInt) := hw.2.2
                  refine lv_if_eq (tgt := 69) hx hb dX12_forced_63 (by decide) (fun c_45255 => ?_) (fun c_45255 => ?_)
                  · skip
                    have c_45255_i := c_45255
                    have c_45255_i : (r_45253 : Int32).toInt = (0 : Int32).toInt := congrArg Int32.toInt c_45255
                    have hw_45254_p1_u := (hw_45254_p1).get (c_45255_i.trans tk_0)
                    have c_45255_i := c_45255
                    have c_45255_i : (r_45253 : Int32).toInt = (0 : Int32).toInt := congrArg Int32.toInt c_45255
                    have h_45256 : 0 ≤ (r_45253 : Int32).toInt ∧ (r_45253 : Int32).toInt ≤ 0 := by have q1 := hw_45254; have q2 := (⟨by decide, by decide⟩ : 0 ≤ (0 : Int32).toInt ∧ (0 : Int32).toInt ≤ 0); omega
                    refine lv_aload_n hx hb dX12_forced_69 rfl (lv_at hl 3 rfl) ?_
                    refine lv_iload hx hb dX12_forced_70 (lv_at hl 0 rfl) ?_
                    have hPc := hP.sub (ws' := [(mm, .inr (12, (.int 0 :: .ref m_s :: .ref m_spare :: .ref m_kept :: .ref m_undone :: .ref m_triedWay :: .ref m_isKept :: .int i_undoMany :: .ref m_tape :: .int i_length :: .int i_size :: .int i_p :: .int i_at :: .int i_token :: .int i_number :: .int i_letterMany :: .int i_fault :: .int i_faultAt :: .ref m_letters :: .int i_isKnown :: .ref m_choice :: .ref m_row :: .ref m_up :: .ref m_low :: .ref m_m :: .ref m_bestUp :: .ref m_bestLow :: .ref m_replyUp :: .ref m_replyLow :: .ref m_worthUp :: .ref m_worthLow :: .ref m_bestWay :: .int i_seed :: .ref m_told :: .int i_toldMany :: []))), (m_s, .inl (g 0, 193, .inl sf))]) [0, 1] rfl
                    refine vp_callSi (va_Run.run (va_runV (As := [.int x_45247]) (rest := []) ⟨hx, hb, hml, hown, hts⟩ (c_X12_aheadOfN l D g mm x_45247 0 m_s m_spare m_kept m_undone m_triedWay m_isKept i_undoMany m_tape i_length i_size i_p i_at i_token i_number i_letterMany i_fault i_faultAt m_letters i_isKnown m_choice m_row m_up m_low m_m m_bestUp m_bestLow m_replyUp m_replyLow m_worthUp m_worthLow m_bestWay i_seed m_told i_toldMany sf (tr_w h_45251 (by decide) (by decide)) (tr_w h_i_undoMany (by decide) (by decide)) (tr_w h_i_length (by decide) (by decide)) (tr_w h_i_size (by decide) (by decide)) (tr_w h_i_p (by decide) (by decide)) (tr_w h_i_at (by decide) (by decide)) (tr_w h_i_token (by decide) (by decide)) (tr_w h_i_number (by decide) (by decide)) (tr_w h_i_letterMany (by decide) (by decide)) (tr_w h_i_faultAt (by decide) (by decide)) (tr_w h_i_isKnown (by decide) (by decide)) (tr_w h_i_toldMany (by decide) (by decide)) hG) (cwV 1 hts (tz_gV qw_225 qw_226 qw_227 qw_3 qw_228) rfl rfl rfl (by decide +kernel) ⟨Nat.le_of_ble_eq_true rfl, Nat.le_of_ble_eq_true rfl⟩) ⟨tz_blS, va_recv hK hPc (ci := 12) (q0 := 0) rfl rfl, tz_preS hPc hK⟩ rfl rfl hl.1 rfl (lv_room (Nat.le_of_ble_eq_true rfl)) dX12_forced_72 ⟨Nat.le_of_ble_eq_true rfl, Nat.le_of_ble_eq_true rfl⟩)) (fun r_45258 hw => ?_)
                    have hw_45259 : 0 ≤ (r_45258 : Int32).toInt ∧ (r_45258 : Int32).toInt ≤ 4095 := hw.1
                    have hw_45259_p0 : (r_45258 : Int32) = ahF (sf (109 + (x_45247 : Int32).toInt.toNat)).toInt (fun i => sf (37 + 3 * (x_45247 : Int32).toInt.toNat + i)) (sf (25 + (x_45247 : Int32).toInt.toNat)).toInt.toNat := hw.2
                    refine lv_istore (lv' := [(6, .int r_45258), (5, .int x_45247), (4, .int x_45205), (3, .int x_45246), (0, .ref mm), (1, .int p0), (2, .int p1)]) hx hb dX12_forced_75 hl (by decide) rfl (fun ls hl => ?_)
                    refine lv_aload_n hx hb dX12_forced_77 rfl (lv_at hl 4 rfl) ?_
                    refine lv_iload hx hb dX12_forced_78 (lv_at hl 1 rfl) ?_
                    refine lv_iload_n hx hb dX12_forced_80 rfl (lv_at hl 5 rfl) ?_
                    have hPc := hP.sub (ws' := [(mm, .inr (12, (.int 0 :: .ref m_s :: .ref m_spare :: .ref m_kept :: .ref m_undone :: .ref m_triedWay :: .ref m_isKept :: .int i_undoMany :: .ref m_tape :: .int i_length :: .int i_size :: .int i_p :: .int i_at :: .int i_token :: .int i_number :: .int i_letterMany :: .int i_fault :: .int i_faultAt :: .ref m_letters :: .int i_isKnown :: .ref m_choice :: .ref m_row :: .ref m_up :: .ref m_low :: .ref m_m :: .ref m_bestUp :: .ref m_bestLow :: .ref m_replyUp :: .ref m_replyLow :: .ref m_worthUp :: .ref m_worthLow :: .ref m_bestWay :: .int i_seed :: .ref m_told :: .int i_toldMany :: []))), (m_s, .inl (g 0, 193, .inl sf))]) [0, 1] rfl
                    refine vp_callSi (va_Run.run (va_runV (As := [.int x_45247, .int p0]) (rest := []) ⟨hx, hb, hml, hown, hts⟩ (c_X12_isKind l D g mm x_45247 p0 0 m_s m_spare m_kept m_undone m_triedWay m_isKept i_undoMany m_tape i_length i_size i_p i_at i_token i_number i_letterMany i_fault i_faultAt m_letters i_isKnown m_choice m_row m_up m_low m_m m_bestUp m_bestLow m_replyUp m_replyLow m_worthUp m_worthLow m_bestWay i_seed m_told i_toldMany sf (tr_w h_45251 (by decide) (by decide)) (tr_w h_i_undoMany (by decide) (by decide)) (tr_w h_i_length (by decide) (by decide)) (tr_w h_i_size (by decide) (by decide)) (tr_w h_i_p (by decide) (by decide)) (tr_w h_i_at (by decide) (by decide)) (tr_w h_i_token (by decide) (by decide)) (tr_w h_i_number (by decide) (by decide)) (tr_w h_i_letterMany (by decide) (by decide)) (tr_w h_i_faultAt (by decide) (by decide)) (tr_w h_i_isKnown (by decide) (by decide)) (tr_w h_i_toldMany (by decide) (by decide)) hG) (cwV 2 hts (tz_gV qw_94 qw_95 qw_96 qw_3 qw_97) rfl rfl rfl (by decide +kernel) ⟨Nat.le_of_ble_eq_true rfl, Nat.le_of_ble_eq_true rfl⟩) ⟨tz_blS, va_recv hK hPc (ci := 12) (q0 := 0) rfl rfl, tz_preS hPc hK⟩ rfl rfl hl.1 rfl (lv_room (Nat.le_of_ble_eq_true rfl)) dX12_forced_81 ⟨Nat.le_of_ble_eq_true rfl, Nat.le_of_ble_eq_true rfl⟩)) (fun r_45260 hw => ?_)
                    have hw_45261 : 0 ≤ (r_45260 : Int32).toInt ∧ (r_45260 : Int32).toInt ≤ 1 := hw.1
                    have hw_45261_p0 : Hide (¬ (r_45260 : Int32).toInt = 0 → (sf (1 + (x_45247 : Int32).toInt.toNat)).toInt = (p0 : Int32).toInt) := hw.2.1
                    have hw_45261_p1 : Hide ((r_45260 : Int32).toInt = 0 → ¬ (sf (1 + (x_45247 : Int32).toInt.toNat)).toInt = (p0 : Int32).toInt) := hw.2.2
                    refine lv_if_eq (tgt := 102) hx hb dX12_forced_84 (by decide) (fun c_45262 => ?_) (fun c_45262 => ?_)
                    · skip
                      have c_45262_i := c_45262
                      have c_45262_i : (r_45260 : Int32).toInt = (0 : Int32).toInt := congrArg Int32.toInt c_45262
                      have hw_45261_p1_u := (hw_45261_p1).get (c_45262_i.trans tk_0)
                      have c_45262_i := c_45262
                      have c_45262_i : (r_45260 : Int32).toInt = (0 : Int32).toInt := congrArg Int32.toInt c_45262
                      have h_45263 : 0 ≤ (r_45260 : Int32).toInt ∧ (r_45260 : Int32).toInt ≤ 0 := by have q1 := hw_45261; have q2 := (⟨by decide, by decide⟩ : 0 ≤ (0 : Int32).toInt ∧ (0 : Int32).toInt ≤ 0); omega
                      refine lv_iload hx hb dX12_forced_102 (lv_at hl 0 rfl) ?_
                      refine lv_iload_n hx hb dX12_forced_104 rfl (lv_at hl 3 rfl) ?_
                      refine lv_iconst (v := (-1)) hx hb dX12_forced_105 (by decide) ?_
                      refine lv_ixor hx hb dX12_forced_106 ?_
                      refine lv_topi (fun v_45265 v_45265_e => ?_)
                      refine lv_iand hx hb dX12_forced_107 ?_
                      refine lv_topi (fun v_45266 v_45266_e => ?_)
                      refine lv_if_ne (tgt := 115) hx hb dX12_forced_108 (by decide) (fun c_45267 => ?_) (fun c_45267 => ?_)
                      · skip
                        have c_45267_i := c_45267
                        have c_45267_i : ¬ (v_45266 : Int32).toInt = (0 : Int32).toInt := (fun q => c_45267 (Int32.toInt_inj.mp q))
                        refine lv_iconst (v := 0) hx hb dX12_forced_115 (by decide) ?_
                        refine lv_istore (lv' := [(7, .int 0), (6, .int r_45258), (5, .int x_45247), (4, .int x_45205), (3, .int x_45246), (0, .ref mm), (1, .int p0), (2, .int p1)]) hx hb dX12_forced_116 hl (by decide) rfl (fun ls hl => ?_)
                        refine lv_iload_n hx hb dX12_forced_118 rfl (lv_at hl 4 rfl) ?_
                        refine lv_iload hx hb dX12_forced_119 (lv_at hl 0 rfl) ?_
                        refine lv_if_eq (tgt := 131) hx hb dX12_forced_121 (by decide) (fun _ => ?_) (fun h9 => (h9 (by decide)).elim)
                        refine lv_iconst (v := 0) hx hb dX12_forced_131 (by decide) ?_
                        refine lv_ior hx hb dX12_forced_132 ?_
                        refine lv_topi (fun v_45269 v_45269_e => ?_)
                        have h_v_45269 : 0 ≤ (v_45269 : Int32).toInt ∧ (v_45269 : Int32).toInt ≤ 4095 := by rw [v_45269_e]; exact (tr_or12 (tr_w h_x_45246 (by decide) (by decide)) (⟨by decide, by decide⟩ : 0 ≤ (0 : Int32).toInt ∧ (0 : Int32).toInt ≤ 4095)).1
                        have o_v_45269 : (x_45246 : Int32).toInt ≤ (v_45269 : Int32).toInt := by rw [v_45269_e]; exact (tr_or12 (tr_w h_x_45246 (by decide) (by decide)) (⟨by decide, by decide⟩ : 0 ≤ (0 : Int32).toInt ∧ (0 : Int32).toInt ≤ 4095)).2
                        refine lv_istore_n (lv' := [(3, .int v_45269), (7, .int 0), (6, .int r_45258), (5, .int x_45247), (4, .int x_45205), (0, .ref mm), (1, .int p0), (2, .int p1)]) hx hb dX12_forced_133 rfl hl (by decide) rfl (fun ls hl => ?_)
                        obtain ⟨v_45270, v_45270_e⟩ : ∃ y : Int32, y = x_45247 + Int32.ofInt 1 := ⟨_, rfl⟩
                        have h_v_45270 : 1 ≤ (v_45270 : Int32).toInt ∧ (v_45270 : Int32).toInt ≤ 12 := by rw [v_45270_e]; exact tr_add h_45251 (⟨by decide, by decide⟩ : 1 ≤ (Int32.ofInt 1 : Int32).toInt ∧ (Int32.ofInt 1 : Int32).toInt ≤ 1) (by decide) (by decide) (by decide) (by decide)
                        have q_v_45270 : v_45270.toInt = x_45247.toInt + 1 := by rw [v_45270_e]; exact tr_addE h_45251 (⟨by decide, by decide⟩ : 1 ≤ (Int32.ofInt 1 : Int32).toInt ∧ (Int32.ofInt 1 : Int32).toInt ≤ 1) (by decide) (by decide)
                        refine lv_iinc (v := v_45270) (lv' := [(5, .int v_45270), (3, .int v_45269), (7, .int 0), (6, .int r_45258), (4, .int x_45205), (0, .ref mm), (1, .int p0), (2, .int p1)]) hx hb dX12_forced_134 hl (k := 3) rfl v_45270_e.symm (by decide) rfl (fun ls hl => ?_)
                        refine lv_goto (tgt := 45) hx hb dX12_forced_137 (by decide) ?_
                        exact ih_45248 v_45269 v_45270 H _ ls (tr_w h_v_45269 (by decide) (by decide)) (tr_w h_v_45270 (by decide) (by decide)) (by have z_0 := tk_0; have z_m := tk_m1; omega) (by have z_0 := tk_0; omega) ⟨swF_N (kk := (sf (1 + x_45247.toInt.toNat)).toInt) hr45248_2.1 (by omega) hw_45259_p0 rfl (fun q => q.2.elim (fun z => absurd z.1 (fun q9 => hw_45261_p1_u (by omega))) (fun z => c_45267 (by rw [v_45266_e, v_45265_e]; exact z.2))) (v_45269_e.trans (orz _)), hr45248_2.2⟩ (by omega) (hP.sub [0, 1] rfl) (hD.sub [0, 1] (by decide) rfl) hS (lv_sub hl [0, 4, 1, 5, 6, 7] rfl)
                      · skip
                        have c_45267_i := c_45267
                        have c_45267_i : (v_45266 : Int32).toInt = (0 : Int32).toInt := congrArg Int32.toInt c_45267
                        have h_45268 : 0 ≤ (v_45266 : Int32).toInt ∧ (v_45266 : Int32).toInt ≤ 0 := by rw [c_45267]; exact ⟨by decide, by decide⟩
                        refine lv_iconst (v := 1) hx hb dX12_forced_111 (by decide) ?_
                        refine lv_goto (tgt := 116) hx hb dX12_forced_112 (by decide) ?_
                        refine lv_istore (lv' := [(7, .int 1), (6, .int r_45258), (5, .int x_45247), (4, .int x_45205), (3, .int x_45246), (0, .ref mm), (1, .int p0), (2, .int p1)]) hx hb dX12_forced_116 hl (by decide) rfl (fun ls hl => ?_)
                        refine lv_iload_n hx hb dX12_forced_118 rfl (lv_at hl 4 rfl) ?_
                        refine lv_iload hx hb dX12_forced_119 (lv_at hl 0 rfl) ?_
                        refine lv_if_eq (tgt := 131) hx hb dX12_forced_121 (by decide) (fun h9 => absurd h9 (by decide)) (fun _ => ?_)
                        refine lv_iconst (v := 1) hx hb dX12_forced_124 (by decide) ?_
                        refine lv_iload hx hb dX12_forced_125 (lv_at hl 2 rfl) ?_
                        refine lv_ishl hx hb dX12_forced_127 ?_
                        refine lv_topi (fun v_45271 v_45271_e => ?_)
                        have h_v_45271 : 0 ≤ (v_45271 : Int32).toInt ∧ (v_45271 : Int32).toInt ≤ 4095 := by rw [v_45271_e]; exact tr_shl12 (tr_w h_45251 (by decide) (by decide))
                        refine lv_goto (tgt := 132) hx hb dX12_forced_128 (by decide) ?_
                        refine lv_ior hx hb dX12_forced_132 ?_
                        refine lv_topi (fun v_45272 v_45272_e => ?_)
                        have h_v_45272 : 0 ≤ (v_45272 : Int32).toInt ∧ (v_45272 : Int32).toInt ≤ 4095 := by rw [v_45272_e]; exact (tr_or12 (tr_w h_x_45246 (by decide) (by decide)) (tr_w h_v_45271 (by decide) (by decide))).1
                        have o_v_45272 : (x_45246 : Int32).toInt ≤ (v_45272 : Int32).toInt := by rw [v_45272_e]; exact (tr_or12 (tr_w h_x_45246 (by decide) (by decide)) (tr_w h_v_45271 (by decide) (by decide))).2
                        refine lv_istore_n (lv' := [(3, .int v_45272), (7, .int 1), (6, .int r_45258), (5, .int x_45247), (4, .int x_45205), (0, .ref mm), (1, .int p0), (2, .int p1)]) hx hb dX12_forced_133 rfl hl (by decide) rfl (fun ls hl => ?_)
                        obtain ⟨v_45273, v_45273_e⟩ : ∃ y : Int32, y = x_45247 + Int32.ofInt 1 := ⟨_, rfl⟩
                        have h_v_45273 : 1 ≤ (v_45273 : Int32).toInt ∧ (v_45273 : Int32).toInt ≤ 12 := by rw [v_45273_e]; exact tr_add h_45251 (⟨by decide, by decide⟩ : 1 ≤ (Int32.ofInt 1 : Int32).toInt ∧ (Int32.ofInt 1 : Int32).toInt ≤ 1) (by decide) (by decide) (by decide) (by decide)
                        have q_v_45273 : v_45273.toInt = x_45247.toInt + 1 := by rw [v_45273_e]; exact tr_addE h_45251 (⟨by decide, by decide⟩ : 1 ≤ (Int32.ofInt 1 : Int32).toInt ∧ (Int32.ofInt 1 : Int32).toInt ≤ 1) (by decide) (by decide)
                        refine lv_iinc (v := v_45273) (lv' := [(5, .int v_45273), (3, .int v_45272), (7, .int 1), (6, .int r_45258), (4, .int x_45205), (0, .ref mm), (1, .int p0), (2, .int p1)]) hx hb dX12_forced_134 hl (k := 3) rfl v_45273_e.symm (by decide) rfl (fun ls hl => ?_)
                        refine lv_goto (tgt := 45) hx hb dX12_forced_137 (by decide) ?_
                        exact ih_45248 v_45272 v_45273 H _ ls (tr_w h_v_45272 (by decide) (by decide)) (tr_w h_v_45273 (by decide) (by decide)) (by have z_0 := tk_0; have z_m := tk_m1; omega) (by have z_0 := tk_0; omega) ⟨swF_Y (kk := (sf (1 + x_45247.toInt.toNat)).toInt) hr45248_2.1 (by omega) hw_45259_p0 rfl ⟨(fun q9 => by have q8 := hw_45254_p1_u; have z_0 := tk_0; omega), Or.inr ⟨(fun q9 => hw_45261_p1_u (by omega)), by rw [← v_45265_e, ← v_45266_e]; exact c_45267⟩⟩ (bit1_at v_45271_e (by omega)) v_45272_e, hr45248_2.2⟩ (by omega) (hP.sub [0, 1] rfl) (hD.sub [0, 1] (by decide) rfl) hS (lv_sub hl [0, 4, 1, 5, 6, 7] rfl)
                    · skip
                      have c_45262_i := c_45262
                      have c_45262_i : ¬ (r_45260 : Int32).toInt = (0 : Int32).toInt := (fun q => c_45262 (Int32.toInt_inj.mp q))
                      have hw_45261_p0_u := (hw_45261_p0).get (fun q => c_45262_i (q.trans tk_0.symm))
                      have c_45262_i := c_45262
                      have c_45262_i : ¬ (r_45260 : Int32).toInt = (0 : Int32).toInt := (fun q => c_45262 (Int32.toInt_inj.mp q))
                      have h_45264 : 1 ≤ (r_45260 : Int32).toInt ∧ (r_45260 : Int32).toInt ≤ 1 := by have q1 := hw_45261; have q2 := (⟨by decide, by decide⟩ : 0 ≤ (0 : Int32).toInt ∧ (0 : Int32).toInt ≤ 0); omega
                      refine lv_iload hx hb dX12_forced_87 (lv_at hl 0 rfl) ?_
                      refine lv_iload_n hx hb dX12_forced_89 rfl (lv_at hl 3 rfl) ?_
                      refine lv_iand hx hb dX12_forced_90 ?_
                      refine lv_topi (fun v_45274 v_45274_e => ?_)
                      refine lv_if_eq (tgt := 98) hx hb dX12_forced_91 (by decide) (fun c_45275 => ?_) (fun c_45275 => ?_)
                      · skip
                        have c_45275_i := c_45275
                        have c_45275_i : (v_45274 : Int32).toInt = (0 : Int32).toInt := congrArg Int32.toInt c_45275
                        have h_45276 : 0 ≤ (v_45274 : Int32).toInt ∧ (v_45274 : Int32).toInt ≤ 0 := by rw [c_45275]; exact ⟨by decide, by decide⟩
                        refine lv_iconst (v := 0) hx hb dX12_forced_98 (by decide) ?_
                        refine lv_goto (tgt := 116) hx hb dX12_forced_99 (by decide) ?_
                        refine lv_istore (lv' := [(7, .int 0), (6, .int r_45258), (5, .int x_45247), (4, .int x_45205), (3, .int x_45246), (0, .ref mm), (1, .int p0), (2, .int p1)]) hx hb dX12_forced_116 hl (by decide) rfl (fun ls hl => ?_)
                        refine lv_iload_n hx hb dX12_forced_118 rfl (lv_at hl 4 rfl) ?_
                        refine lv_iload hx hb dX12_forced_119 (lv_at hl 0 rfl) ?_
                        refine lv_if_eq (tgt := 131) hx hb dX12_forced_121 (by decide) (fun _ => ?_) (fun h9 => (h9 (by decide)).elim)
                        refine lv_iconst (v := 0) hx hb dX12_forced_131 (by decide) ?_
                        refine lv_ior hx hb dX12_forced_132 ?_
                        refine lv_topi (fun v_45277 v_45277_e => ?_)
                        have h_v_45277 : 0 ≤ (v_45277 : Int32).toInt ∧ (v_45277 : Int32).toInt ≤ 4095 := by rw [v_45277_e]; exact (tr_or12 (tr_w h_x_45246 (by decide) (by decide)) (⟨by decide, by decide⟩ : 0 ≤ (0 : Int32).toInt ∧ (0 : Int32).toInt ≤ 4095)).1
                        have o_v_45277 : (x_45246 : Int32).toInt ≤ (v_45277 : Int32).toInt := by rw [v_45277_e]; exact (tr_or12 (tr_w h_x_45246 (by decide) (by decide)) (⟨by decide, by decide⟩ : 0 ≤ (0 : Int32).toInt ∧ (0 : Int32).toInt ≤ 4095)).2
                        refine lv_istore_n (lv' := [(3, .int v_45277), (7, .int 0), (6, .int r_45258), (5, .int x_45247), (4, .int x_45205), (0, .ref mm), (1, .int p0), (2, .int p1)]) hx hb dX12_forced_133 rfl hl (by decide) rfl (fun ls hl => ?_)
                        obtain ⟨v_45278, v_45278_e⟩ : ∃ y : Int32, y = x_45247 + Int32.ofInt 1 := ⟨_, rfl⟩
                        have h_v_45278 : 1 ≤ (v_45278 : Int32).toInt ∧ (v_45278 : Int32).toInt ≤ 12 := by rw [v_45278_e]; exact tr_add h_45251 (⟨by decide, by decide⟩ : 1 ≤ (Int32.ofInt 1 : Int32).toInt ∧ (Int32.ofInt 1 : Int32).toInt ≤ 1) (by decide) (by decide) (by decide) (by decide)
                        have q_v_45278 : v_45278.toInt = x_45247.toInt + 1 := by rw [v_45278_e]; exact tr_addE h_45251 (⟨by decide, by decide⟩ : 1 ≤ (Int32.ofInt 1 : Int32).toInt ∧ (Int32.ofInt 1 : Int32).toInt ≤ 1) (by decide) (by decide)
                        refine lv_iinc (v := v_45278) (lv' := [(5, .int v_45278), (3, .int v_45277), (7, .int 0), (6, .int r_45258), (4, .int x_45205), (0, .ref mm), (1, .int p0), (2, .int p1)]) hx hb dX12_forced_134 hl (k := 3) rfl v_45278_e.symm (by decide) rfl (fun ls hl => ?_)
                        refine lv_goto (tgt := 45) hx hb dX12_forced_137 (by decide) ?_
                        exact ih_45248 v_45277 v_45278 H _ ls (tr_w h_v_45277 (by decide) (by decide)) (tr_w h_v_45278 (by decide) (by decide)) (by have z_0 := tk_0; have z_m := tk_m1; omega) (by have z_0 := tk_0; omega) ⟨swF_N (kk := (sf (1 + x_45247.toInt.toNat)).toInt) hr45248_2.1 (by omega) hw_45259_p0 rfl (fun q => q.2.elim (fun z => z.2 (v_45274_e.symm.trans c_45275)) (fun z => z.1 (by have q9 := hw_45261_p0_u; omega))) (v_45277_e.trans (orz _)), hr45248_2.2⟩ (by omega) (hP.sub [0, 1] rfl) (hD.sub [0, 1] (by decide) rfl) hS (lv_sub hl [0, 4, 1, 5, 6, 7] rfl)
                      · skip
                        have c_45275_i := c_45275
                        have c_45275_i : ¬ (v_45274 : Int32).toInt = (0 : Int32).toInt := (fun q => c_45275 (Int32.toInt_inj.mp q))
                        refine lv_iconst (v := 1) hx hb dX12_forced_94 (by decide) ?_
                        refine lv_goto (tgt := 116) hx hb dX12_forced_95 (by decide) ?_
                        refine lv_istore (lv' := [(7, .int 1), (6, .int r_45258), (5, .int x_45247), (4, .int x_45205), (3, .int x_45246), (0, .ref mm), (1, .int p0), (2, .int p1)]) hx hb dX12_forced_116 hl (by decide) rfl (fun ls hl => ?_)
                        refine lv_iload_n hx hb dX12_forced_118 rfl (lv_at hl 4 rfl) ?_
                        refine lv_iload hx hb dX12_forced_119 (lv_at hl 0 rfl) ?_
                        refine lv_if_eq (tgt := 131) hx hb dX12_forced_121 (by decide) (fun h9 => absurd h9 (by decide)) (fun _ => ?_)
                        refine lv_iconst (v := 1) hx hb dX12_forced_124 (by decide) ?_
                        refine lv_iload hx hb dX12_forced_125 (lv_at hl 2 rfl) ?_
                        refine lv_ishl hx hb dX12_forced_127 ?_
                        refine lv_topi (fun v_45279 v_45279_e => ?_)
                        have h_v_45279 : 0 ≤ (v_45279 : Int32).toInt ∧ (v_45279 : Int32).toInt ≤ 4095 := by rw [v_45279_e]; exact tr_shl12 (tr_w h_45251 (by decide) (by decide))
                        refine lv_goto (tgt := 132) hx hb dX12_forced_128 (by decide) ?_
                        refine lv_ior hx hb dX12_forced_132 ?_
                        refine lv_topi (fun v_45280 v_45280_e => ?_)
                        have h_v_45280 : 0 ≤ (v_45280 : Int32).toInt ∧ (v_45280 : Int32).toInt ≤ 4095 := by rw [v_45280_e]; exact (tr_or12 (tr_w h_x_45246 (by decide) (by decide)) (tr_w h_v_45279 (by decide) (by decide))).1
                        have o_v_45280 : (x_45246 : Int32).toInt ≤ (v_45280 : Int32).toInt := by rw [v_45280_e]; exact (tr_or12 (tr_w h_x_45246 (by decide) (by decide)) (tr_w h_v_45279 (by decide) (by decide))).2
                        refine lv_istore_n (lv' := [(3, .int v_45280), (7, .int 1), (6, .int r_45258), (5, .int x_45247), (4, .int x_45205), (0, .ref mm), (1, .int p0), (2, .int p1)]) hx hb dX12_forced_133 rfl hl (by decide) rfl (fun ls hl => ?_)
                        obtain ⟨v_45281, v_45281_e⟩ : ∃ y : Int32, y = x_45247 + Int32.ofInt 1 := ⟨_, rfl⟩
                        have h_v_45281 : 1 ≤ (v_45281 : Int32).toInt ∧ (v_45281 : Int32).toInt ≤ 12 := by rw [v_45281_e]; exact tr_add h_45251 (⟨by decide, by decide⟩ : 1 ≤ (Int32.ofInt 1 : Int32).toInt ∧ (Int32.ofInt 1 : Int32).toInt ≤ 1) (by decide) (by decide) (by decide) (by decide)
                        have q_v_45281 : v_45281.toInt = x_45247.toInt + 1 := by rw [v_45281_e]; exact tr_addE h_45251 (⟨by decide, by decide⟩ : 1 ≤ (Int32.ofInt 1 : Int32).toInt ∧ (Int32.ofInt 1 : Int32).toInt ≤ 1) (by decide) (by decide)
                        refine lv_iinc (v := v_45281) (lv' := [(5, .int v_45281), (3, .int v_45280), (7, .int 1), (6, .int r_45258), (4, .int x_45205), (0, .ref mm), (1, .int p0), (2, .int p1)]) hx hb dX12_forced_134 hl (k := 3) rfl v_45281_e.symm (by decide) rfl (fun ls hl => ?_)
                        refine lv_goto (tgt := 45) hx hb dX12_forced_137 (by decide) ?_
                        exact ih_45248 v_45280 v_45281 H _ ls (tr_w h_v_45280 (by decide) (by decide)) (tr_w h_v_45281 (by decide) (by decide)) (by have z_0 := tk_0; have z_m := tk_m1; omega) (by have z_0 := tk_0; omega) ⟨swF_Y (kk := (sf (1 + x_45247.toInt.toNat)).toInt) hr45248_2.1 (by omega) hw_45259_p0 rfl ⟨(fun q9 => by have q8 := hw_45254_p1_u; have z_0 := tk_0; omega), Or.inl ⟨(by have q9 := hw_45261_p0_u; omega), fun q9 => c_45275 (v_45274_e.trans q9)⟩⟩ (bit1_at v_45279_e (by omega)) v_45280_e, hr45248_2.2⟩ (by omega) (hP.sub [0, 1] rfl) (hD.sub [0, 1] (by decide) rfl) hS (lv_sub hl [0, 4, 1, 5, 6, 7] rfl)
                  · skip
                    have c_45255_i := c_45255
                    have c_45255_i : ¬ (r_45253 : Int32).toInt = (0 : Int32).toInt := (fun q => c_45255 (Int32.toInt_inj.mp q))
                    have hw_45254_p0_u := (hw_45254_p0).get (fun q => c_45255_i (q.trans tk_0.symm))
                    have c_45255_i := c_45255
                    have c_45255_i : ¬ (r_45253 : Int32).toInt = (0 : Int32).toInt := (fun q => c_45255 (Int32.toInt_inj.mp q))
                    have h_45257 : 1 ≤ (r_45253 : Int32).toInt ∧ (r_45253 : Int32).toInt ≤ 1 := by have q1 := hw_45254; have q2 := (⟨by decide, by decide⟩ : 0 ≤ (0 : Int32).toInt ∧ (0 : Int32).toInt ≤ 0); omega
                    refine lv_goto (tgt := 134) hx hb dX12_forced_66 (by decide) ?_
                    obtain ⟨v_45282, v_45282_e⟩ : ∃ y : Int32, y = x_45247 + Int32.ofInt 1 := ⟨_, rfl⟩
                    have h_v_45282 : 1 ≤ (v_45282 : Int32).toInt ∧ (v_45282 : Int32).toInt ≤ 12 := by rw [v_45282_e]; exact tr_add h_45251 (⟨by decide, by decide⟩ : 1 ≤ (Int32.ofInt 1 : Int32).toInt ∧ (Int32.ofInt 1 : Int32).toInt ≤ 1) (by decide) (by decide) (by decide) (by decide)
                    have q_v_45282 : v_45282.toInt = x_45247.toInt + 1 := by rw [v_45282_e]; exact tr_addE h_45251 (⟨by decide, by decide⟩ : 1 ≤ (Int32.ofInt 1 : Int32).toInt ∧ (Int32.ofInt 1 : Int32).toInt ≤ 1) (by decide) (by decide)
                    refine lv_iinc (v := v_45282) (lv' := [(5, .int v_45282), (4, .int x_45205), (3, .int x_45246), (0, .ref mm), (1, .int p0), (2, .int p1)]) hx hb dX12_forced_134 hl (k := 0) rfl v_45282_e.symm (by decide) rfl (fun ls hl => ?_)
                    refine lv_goto (tgt := 45) hx hb dX12_forced_137 (by decide) ?_
                    exact ih_45248 x_45246 v_45282 H _ ls (tr_w h_x_45246 (by decide) (by decide)) (tr_w h_v_45282 (by decide) (by decide)) (by have z_0 := tk_0; have z_m := tk_m1; omega) (by have z_0 := tk_0; omega) ⟨swF_0 (kk := (sf (1 + x_45247.toInt.toNat)).toInt) hr45248_2.1 (by omega) rfl (by have q9 := hw_45254_p0_u; have z_0 := tk_0; omega) rfl, hr45248_2.2⟩ (by omega) (hP.sub [0, 1] rfl) (hD.sub [0, 1] (by decide) rfl) hS (lv_sub hl [0, 1, 2, 3, 4, 5] rfl)
            exact lp_45248 13 x_45205 0 H _ ls (tr_w h_x_45205 (by decide) (by decide)) (⟨by decide, by decide⟩ : 0 ≤ (0 : Int32).toInt ∧ (0 : Int32).toInt ≤ 12) (by have z_0 := tk_0; have z_m := tk_m1; omega) (by have z_0 := tk_0; omega) ⟨rfl, hr45207_1.elim (fun j z => ⟨j, z.1⟩)⟩ (by decide) (hP.sub [0, 1] rfl) (hD.sub [0, 1] (by decide) rfl) hS (lv_sub hl [0, 1, 2, 3, 4, 5] rfl)
      exact lp_45207 4097 p1 (-1) H _ ls (tr_w h_45128 (by decide) (by decide)) (⟨by decide, by decide⟩ : (-1) ≤ ((-1) : Int32).toInt ∧ ((-1) : Int32).toInt ≤ 4095) (by have z_0 := tk_0; have z_m := tk_m1; omega) ⟨0, rfl, fun h9 => absurd h9 (by decide), fun _ => tk_m1⟩ (by have z9_0 := tk_m1; omega) (hP.sub [0, 1] rfl) (hD.sub [0, 1] (by decide) rfl) hS (lv_sub hl [0, 1, 2, 3, 4] rfl)
    · skip
      have c_45125_i := c_45125
      have c_45125_i : (r_45123 : Int32).toInt = (0 : Int32).toInt := congrArg Int32.toInt c_45125
      have hw_45124_p1_u := (hw_45124_p1).get (c_45125_i.trans tk_0)
      have c_45125_i := c_45125
      have c_45125_i : (r_45123 : Int32).toInt = (0 : Int32).toInt := congrArg Int32.toInt c_45125
      have h_45127 : 0 ≤ (r_45123 : Int32).toInt ∧ (r_45123 : Int32).toInt ≤ 0 := by have q1 := hw_45124; have q2 := (⟨by decide, by decide⟩ : 0 ≤ (0 : Int32).toInt ∧ (0 : Int32).toInt ≤ 0); omega
      refine lv_iconst (v := (-1)) hx hb dX12_forced_26 (by decide) ?_
      have hP9 := hP.sub (ws' := [(mm, .inr (12, (.int 0 :: .ref m_s :: .ref m_spare :: .ref m_kept :: .ref m_undone :: .ref m_triedWay :: .ref m_isKept :: .int i_undoMany :: .ref m_tape :: .int i_length :: .int i_size :: .int i_p :: .int i_at :: .int i_token :: .int i_number :: .int i_letterMany :: .int i_fault :: .int i_faultAt :: .ref m_letters :: .int i_isKnown :: .ref m_choice :: .ref m_row :: .ref m_up :: .ref m_low :: .ref m_m :: .ref m_bestUp :: .ref m_bestLow :: .ref m_replyUp :: .ref m_replyLow :: .ref m_worthUp :: .ref m_worthLow :: .ref m_bestWay :: .int i_seed :: .ref m_told :: .int i_toldMany :: []))), (m_s, .inl (g 0, 193, .inl sf))]) [0, 1] rfl
      have hD9 := hD.sub (ws' := [(mm, .inr (12, (.int 0 :: .ref m_s :: .ref m_spare :: .ref m_kept :: .ref m_undone :: .ref m_triedWay :: .ref m_isKept :: .int i_undoMany :: .ref m_tape :: .int i_length :: .int i_size :: .int i_p :: .int i_at :: .int i_token :: .int i_number :: .int i_letterMany :: .int i_fault :: .int i_faultAt :: .ref m_letters :: .int i_isKnown :: .ref m_choice :: .ref m_row :: .ref m_up :: .ref m_low :: .ref m_m :: .ref m_bestUp :: .ref m_bestLow :: .ref m_replyUp :: .ref m_replyLow :: .ref m_worthUp :: .ref m_worthLow :: .ref m_bestWay :: .int i_seed :: .ref m_told :: .int i_toldMany :: []))), (m_s, .inl (g 0, 193, .inl sf))]) [0, 1] (by decide) rfl
      exact W.iret (v := (-1)) hx hb hr (fun t ht hW => ⟨⟨(-1), (), rfl, ⟨trivial, ⟨fun h9 => absurd h9 (by have z_0 := tk_0; have z_1 := tk_1; have z_2 := tk_2; have z_m := tk_m1; omega), fun _ => tk_m1⟩⟩, 0, by rw [ht]; exact hP9, hD9⟩, hS.F ht⟩) hS.2.2 dX12_forced_27
