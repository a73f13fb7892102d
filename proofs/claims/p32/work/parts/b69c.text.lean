theorem dX12_count_0 : decode cX12_count 0 = .ok (.aload_n 0, 1) := by decide +kernel
theorem dX12_count_1 : decode cX12_count 1 = .ok (.iconst 0, 1) := by decide +kernel
theorem dX12_count_2 : decode cX12_count 2 = .ok (.putfield 1, 3) := by decide +kernel
theorem dX12_count_5 : decode cX12_count 5 = .ok (.iconst 0, 1) := by decide +kernel
theorem dX12_count_6 : decode cX12_count 6 = .ok (.istore_n 2, 1) := by decide +kernel
theorem dX12_count_7 : decode cX12_count 7 = .ok (.iconst 0, 1) := by decide +kernel
theorem dX12_count_8 : decode cX12_count 8 = .ok (.istore_n 3, 1) := by decide +kernel
theorem dX12_count_9 : decode cX12_count 9 = .ok (.iconst 0, 1) := by decide +kernel
theorem dX12_count_10 : decode cX12_count 10 = .ok (.istore 4, 2) := by decide +kernel
theorem dX12_count_12 : decode cX12_count 12 = .ok (.iload 4, 2) := by decide +kernel
theorem dX12_count_14 : decode cX12_count 14 = .ok (.aload_n 0, 1) := by decide +kernel
theorem dX12_count_15 : decode cX12_count 15 = .ok (.getfield 13, 3) := by decide +kernel
theorem dX12_count_18 : decode cX12_count 18 = .ok (.iconst 0, 1) := by decide +kernel
theorem dX12_count_19 : decode cX12_count 19 = .ok (.iaload, 1) := by decide +kernel
theorem dX12_count_20 : decode cX12_count 20 = .ok (.if_icmp .ge 46, 3) := by decide +kernel
theorem dX12_count_23 : decode cX12_count 23 = .ok (.iload_n 2, 1) := by decide +kernel
theorem dX12_count_24 : decode cX12_count 24 = .ok (.aload_n 0, 1) := by decide +kernel
theorem dX12_count_25 : decode cX12_count 25 = .ok (.getfield 13, 3) := by decide +kernel
theorem dX12_count_28 : decode cX12_count 28 = .ok (.bipush 25, 2) := by decide +kernel
theorem dX12_count_30 : decode cX12_count 30 = .ok (.iload 4, 2) := by decide +kernel
theorem dX12_count_32 : decode cX12_count 32 = .ok (.iadd, 1) := by decide +kernel
theorem dX12_count_33 : decode cX12_count 33 = .ok (.iaload, 1) := by decide +kernel
theorem dX12_count_34 : decode cX12_count 34 = .ok (.iadd, 1) := by decide +kernel
theorem dX12_count_35 : decode cX12_count 35 = .ok (.istore_n 2, 1) := by decide +kernel
theorem dX12_count_36 : decode cX12_count 36 = .ok (.iload_n 3, 1) := by decide +kernel
theorem dX12_count_37 : decode cX12_count 37 = .ok (.aload_n 0, 1) := by decide +kernel
theorem dX12_count_38 : decode cX12_count 38 = .ok (.getfield 13, 3) := by decide +kernel
theorem dX12_count_41 : decode cX12_count 41 = .ok (.bipush 109, 2) := by decide +kernel
theorem dX12_count_43 : decode cX12_count 43 = .ok (.iload 4, 2) := by decide +kernel
theorem dX12_count_45 : decode cX12_count 45 = .ok (.iadd, 1) := by decide +kernel
theorem dX12_count_46 : decode cX12_count 46 = .ok (.iaload, 1) := by decide +kernel
theorem dX12_count_47 : decode cX12_count 47 = .ok (.ifCond .lt 10, 3) := by decide +kernel
theorem dX12_count_50 : decode cX12_count 50 = .ok (.iconst 1, 1) := by decide +kernel
theorem dX12_count_51 : decode cX12_count 51 = .ok (.iload 4, 2) := by decide +kernel
theorem dX12_count_53 : decode cX12_count 53 = .ok (.ishl, 1) := by decide +kernel
theorem dX12_count_54 : decode cX12_count 54 = .ok (.goto 4, 3) := by decide +kernel
theorem dX12_count_57 : decode cX12_count 57 = .ok (.iconst 0, 1) := by decide +kernel
theorem dX12_count_58 : decode cX12_count 58 = .ok (.ior, 1) := by decide +kernel
theorem dX12_count_59 : decode cX12_count 59 = .ok (.istore_n 3, 1) := by decide +kernel
theorem dX12_count_60 : decode cX12_count 60 = .ok (.iinc 4 1, 3) := by decide +kernel
theorem dX12_count_63 : decode cX12_count 63 = .ok (.goto (-51), 3) := by decide +kernel
theorem dX12_count_66 : decode cX12_count 66 = .ok (.iload_n 1, 1) := by decide +kernel
theorem dX12_count_67 : decode cX12_count 67 = .ok (.tableswitch 101 0 7 #[45, 52, 62, 72, 82, 92, 94, 96], 45) := by decide +kernel
theorem dX12_count_112 : decode cX12_count 112 = .ok (.aload_n 0, 1) := by decide +kernel
theorem dX12_count_113 : decode cX12_count 113 = .ok (.getfield 13, 3) := by decide +kernel
theorem dX12_count_116 : decode cX12_count 116 = .ok (.iconst 0, 1) := by decide +kernel
theorem dX12_count_117 : decode cX12_count 117 = .ok (.iaload, 1) := by decide +kernel
theorem dX12_count_118 : decode cX12_count 118 = .ok (.ireturn, 1) := by decide +kernel
theorem dX12_count_119 : decode cX12_count 119 = .ok (.aload_n 0, 1) := by decide +kernel
theorem dX12_count_120 : decode cX12_count 120 = .ok (.aload_n 0, 1) := by decide +kernel
theorem dX12_count_121 : decode cX12_count 121 = .ok (.getfield 13, 3) := by decide +kernel
theorem dX12_count_124 : decode cX12_count 124 = .ok (.iconst 1, 1) := by decide +kernel
theorem dX12_count_125 : decode cX12_count 125 = .ok (.invokevirtual 138, 3) := by decide +kernel
theorem dX12_count_128 : decode cX12_count 128 = .ok (.ireturn, 1) := by decide +kernel
theorem dX12_count_129 : decode cX12_count 129 = .ok (.aload_n 0, 1) := by decide +kernel
theorem dX12_count_130 : decode cX12_count 130 = .ok (.aload_n 0, 1) := by decide +kernel
theorem dX12_count_131 : decode cX12_count 131 = .ok (.getfield 13, 3) := by decide +kernel
theorem dX12_count_134 : decode cX12_count 134 = .ok (.iconst 2, 1) := by decide +kernel
theorem dX12_count_135 : decode cX12_count 135 = .ok (.invokevirtual 138, 3) := by decide +kernel
theorem dX12_count_138 : decode cX12_count 138 = .ok (.ireturn, 1) := by decide +kernel
theorem dX12_count_139 : decode cX12_count 139 = .ok (.aload_n 0, 1) := by decide +kernel
theorem dX12_count_140 : decode cX12_count 140 = .ok (.aload_n 0, 1) := by decide +kernel
theorem dX12_count_141 : decode cX12_count 141 = .ok (.getfield 13, 3) := by decide +kernel
theorem dX12_count_144 : decode cX12_count 144 = .ok (.iconst 3, 1) := by decide +kernel
theorem dX12_count_145 : decode cX12_count 145 = .ok (.invokevirtual 138, 3) := by decide +kernel
theorem dX12_count_148 : decode cX12_count 148 = .ok (.ireturn, 1) := by decide +kernel
theorem dX12_count_149 : decode cX12_count 149 = .ok (.aload_n 0, 1) := by decide +kernel
theorem dX12_count_150 : decode cX12_count 150 = .ok (.aload_n 0, 1) := by decide +kernel
theorem dX12_count_151 : decode cX12_count 151 = .ok (.getfield 13, 3) := by decide +kernel
theorem dX12_count_154 : decode cX12_count 154 = .ok (.iconst 0, 1) := by decide +kernel
theorem dX12_count_155 : decode cX12_count 155 = .ok (.invokevirtual 138, 3) := by decide +kernel
theorem dX12_count_158 : decode cX12_count 158 = .ok (.ireturn, 1) := by decide +kernel
theorem dX12_count_159 : decode cX12_count 159 = .ok (.iload_n 2, 1) := by decide +kernel
theorem dX12_count_160 : decode cX12_count 160 = .ok (.ireturn, 1) := by decide +kernel
theorem dX12_count_161 : decode cX12_count 161 = .ok (.iload_n 3, 1) := by decide +kernel
theorem dX12_count_162 : decode cX12_count 162 = .ok (.ireturn, 1) := by decide +kernel
theorem dX12_count_163 : decode cX12_count 163 = .ok (.aload_n 0, 1) := by decide +kernel
theorem dX12_count_164 : decode cX12_count 164 = .ok (.getfield 82, 3) := by decide +kernel
theorem dX12_count_167 : decode cX12_count 167 = .ok (.ireturn, 1) := by decide +kernel
theorem dX12_count_168 : decode cX12_count 168 = .ok (.iconst (-1), 1) := by decide +kernel
theorem dX12_count_169 : decode cX12_count 169 = .ok (.ireturn, 1) := by decide +kernel
theorem dX12_fault_0 : decode cX12_fault 0 = .ok (.aload_n 0, 1) := by decide +kernel
theorem dX12_fault_1 : decode cX12_fault 1 = .ok (.iconst 0, 1) := by decide +kernel
theorem dX12_fault_2 : decode cX12_fault 2 = .ok (.putfield 1, 3) := by decide +kernel
theorem dX12_fault_5 : decode cX12_fault 5 = .ok (.aload_n 0, 1) := by decide +kernel
theorem dX12_fault_6 : decode cX12_fault 6 = .ok (.getfield 99, 3) := by decide +kernel
theorem dX12_fault_9 : decode cX12_fault 9 = .ok (.ireturn, 1) := by decide +kernel
theorem dX12_node_0 : decode cX12_node 0 = .ok (.aload_n 0, 1) := by decide +kernel
theorem dX12_node_1 : decode cX12_node 1 = .ok (.aload_n 0, 1) := by decide +kernel
theorem dX12_node_2 : decode cX12_node 2 = .ok (.iload_n 1, 1) := by decide +kernel
theorem dX12_node_3 : decode cX12_node 3 = .ok (.invokevirtual 184, 3) := by decide +kernel
theorem dX12_node_6 : decode cX12_node 6 = .ok (.ifCond .eq 12, 3) := by decide +kernel
theorem dX12_node_9 : decode cX12_node 9 = .ok (.iload_n 2, 1) := by decide +kernel
theorem dX12_node_10 : decode cX12_node 10 = .ok (.iconst 0, 1) := by decide +kernel
theorem dX12_node_11 : decode cX12_node 11 = .ok (.iconst 3, 1) := by decide +kernel
theorem dX12_node_12 : decode cX12_node 12 = .ok (.invokestatic 95, 3) := by decide +kernel
theorem dX12_node_15 : decode cX12_node 15 = .ok (.ifCond .ne 7, 3) := by decide +kernel
theorem dX12_node_18 : decode cX12_node 18 = .ok (.iconst 1, 1) := by decide +kernel
theorem dX12_node_19 : decode cX12_node 19 = .ok (.goto 4, 3) := by decide +kernel
theorem dX12_node_22 : decode cX12_node 22 = .ok (.iconst 0, 1) := by decide +kernel
theorem dX12_node_23 : decode cX12_node 23 = .ok (.invokevirtual 190, 3) := by decide +kernel
theorem dX12_node_26 : decode cX12_node 26 = .ok (.ifCond .eq 5, 3) := by decide +kernel
theorem dX12_node_29 : decode cX12_node 29 = .ok (.iconst 0, 1) := by decide +kernel
theorem dX12_node_30 : decode cX12_node 30 = .ok (.ireturn, 1) := by decide +kernel
theorem dX12_node_31 : decode cX12_node 31 = .ok (.iload_n 2, 1) := by decide +kernel
theorem dX12_node_32 : decode cX12_node 32 = .ok (.ifCond .ne 14, 3) := by decide +kernel
theorem dX12_node_35 : decode cX12_node 35 = .ok (.aload_n 0, 1) := by decide +kernel
theorem dX12_node_36 : decode cX12_node 36 = .ok (.getfield 13, 3) := by decide +kernel
theorem dX12_node_39 : decode cX12_node 39 = .ok (.iconst 1, 1) := by decide +kernel
theorem dX12_node_40 : decode cX12_node 40 = .ok (.iload_n 1, 1) := by decide +kernel
theorem dX12_node_41 : decode cX12_node 41 = .ok (.iadd, 1) := by decide +kernel
theorem dX12_node_42 : decode cX12_node 42 = .ok (.iaload, 1) := by decide +kernel
theorem dX12_node_43 : decode cX12_node 43 = .ok (.goto 59, 3) := by decide +kernel
theorem dX12_node_46 : decode cX12_node 46 = .ok (.iload_n 2, 1) := by decide +kernel
theorem dX12_node_47 : decode cX12_node 47 = .ok (.iconst 1, 1) := by decide +kernel
theorem dX12_node_48 : decode cX12_node 48 = .ok (.if_icmp .ne 28, 3) := by decide +kernel
theorem dX12_node_51 : decode cX12_node 51 = .ok (.aload_n 0, 1) := by decide +kernel
theorem dX12_node_52 : decode cX12_node 52 = .ok (.iload_n 1, 1) := by decide +kernel
theorem dX12_node_53 : decode cX12_node 53 = .ok (.iconst 0, 1) := by decide +kernel
theorem dX12_node_54 : decode cX12_node 54 = .ok (.invokevirtual 187, 3) := by decide +kernel
theorem dX12_node_57 : decode cX12_node 57 = .ok (.ifCond .eq 15, 3) := by decide +kernel
theorem dX12_node_60 : decode cX12_node 60 = .ok (.aload_n 0, 1) := by decide +kernel
theorem dX12_node_61 : decode cX12_node 61 = .ok (.getfield 13, 3) := by decide +kernel
theorem dX12_node_64 : decode cX12_node 64 = .ok (.bipush 13, 2) := by decide +kernel
theorem dX12_node_66 : decode cX12_node 66 = .ok (.iload_n 1, 1) := by decide +kernel
theorem dX12_node_67 : decode cX12_node 67 = .ok (.iadd, 1) := by decide +kernel
theorem dX12_node_68 : decode cX12_node 68 = .ok (.iaload, 1) := by decide +kernel
theorem dX12_node_69 : decode cX12_node 69 = .ok (.goto 33, 3) := by decide +kernel
theorem dX12_node_72 : decode cX12_node 72 = .ok (.iconst (-1), 1) := by decide +kernel
theorem dX12_node_73 : decode cX12_node 73 = .ok (.goto 29, 3) := by decide +kernel
theorem dX12_node_76 : decode cX12_node 76 = .ok (.iload_n 2, 1) := by decide +kernel
theorem dX12_node_77 : decode cX12_node 77 = .ok (.iconst 2, 1) := by decide +kernel
theorem dX12_node_78 : decode cX12_node 78 = .ok (.if_icmp .ne 15, 3) := by decide +kernel
theorem dX12_node_81 : decode cX12_node 81 = .ok (.aload_n 0, 1) := by decide +kernel
theorem dX12_node_82 : decode cX12_node 82 = .ok (.getfield 13, 3) := by decide +kernel
theorem dX12_node_85 : decode cX12_node 85 = .ok (.bipush 25, 2) := by decide +kernel
theorem dX12_node_87 : decode cX12_node 87 = .ok (.iload_n 1, 1) := by decide +kernel
theorem dX12_node_88 : decode cX12_node 88 = .ok (.iadd, 1) := by decide +kernel
theorem dX12_node_89 : decode cX12_node 89 = .ok (.iaload, 1) := by decide +kernel
theorem dX12_node_90 : decode cX12_node 90 = .ok (.goto 12, 3) := by decide +kernel
theorem dX12_node_93 : decode cX12_node 93 = .ok (.aload_n 0, 1) := by decide +kernel
theorem dX12_node_94 : decode cX12_node 94 = .ok (.getfield 13, 3) := by decide +kernel
theorem dX12_node_97 : decode cX12_node 97 = .ok (.bipush 109, 2) := by decide +kernel
theorem dX12_node_99 : decode cX12_node 99 = .ok (.iload_n 1, 1) := by decide +kernel
theorem dX12_node_100 : decode cX12_node 100 = .ok (.iadd, 1) := by decide +kernel
theorem dX12_node_101 : decode cX12_node 101 = .ok (.iaload, 1) := by decide +kernel
theorem dX12_node_102 : decode cX12_node 102 = .ok (.ireturn, 1) := by decide +kernel
theorem dX12_way_0 : decode cX12_way 0 = .ok (.aload_n 0, 1) := by decide +kernel
theorem dX12_way_1 : decode cX12_way 1 = .ok (.aload_n 0, 1) := by decide +kernel
theorem dX12_way_2 : decode cX12_way 2 = .ok (.iload_n 1, 1) := by decide +kernel
theorem dX12_way_3 : decode cX12_way 3 = .ok (.iload_n 2, 1) := by decide +kernel
theorem dX12_way_4 : decode cX12_way 4 = .ok (.invokevirtual 194, 3) := by decide +kernel
theorem dX12_way_7 : decode cX12_way 7 = .ok (.ifCond .eq 12, 3) := by decide +kernel
theorem dX12_way_10 : decode cX12_way 10 = .ok (.iload_n 3, 1) := by decide +kernel
theorem dX12_way_11 : decode cX12_way 11 = .ok (.iconst 0, 1) := by decide +kernel
theorem dX12_way_12 : decode cX12_way 12 = .ok (.iconst 1, 1) := by decide +kernel
theorem dX12_way_13 : decode cX12_way 13 = .ok (.invokestatic 95, 3) := by decide +kernel
theorem dX12_way_16 : decode cX12_way 16 = .ok (.ifCond .ne 7, 3) := by decide +kernel
theorem dX12_way_19 : decode cX12_way 19 = .ok (.iconst 1, 1) := by decide +kernel
theorem dX12_way_20 : decode cX12_way 20 = .ok (.goto 4, 3) := by decide +kernel
theorem dX12_way_23 : decode cX12_way 23 = .ok (.iconst 0, 1) := by decide +kernel
theorem dX12_way_24 : decode cX12_way 24 = .ok (.invokevirtual 190, 3) := by decide +kernel
theorem dX12_way_27 : decode cX12_way 27 = .ok (.ifCond .eq 5, 3) := by decide +kernel
theorem dX12_way_30 : decode cX12_way 30 = .ok (.iconst 0, 1) := by decide +kernel
theorem dX12_way_31 : decode cX12_way 31 = .ok (.ireturn, 1) := by decide +kernel
theorem dX12_way_32 : decode cX12_way 32 = .ok (.iload_n 3, 1) := by decide +kernel
theorem dX12_way_33 : decode cX12_way 33 = .ok (.ifCond .ne 12, 3) := by decide +kernel
theorem dX12_way_36 : decode cX12_way 36 = .ok (.aload_n 0, 1) := by decide +kernel
theorem dX12_way_37 : decode cX12_way 37 = .ok (.iload_n 1, 1) := by decide +kernel
theorem dX12_way_38 : decode cX12_way 38 = .ok (.iload_n 2, 1) := by decide +kernel
theorem dX12_way_39 : decode cX12_way 39 = .ok (.invokevirtual 197, 3) := by decide +kernel
theorem dX12_way_42 : decode cX12_way 42 = .ok (.goto 9, 3) := by decide +kernel
theorem dX12_way_45 : decode cX12_way 45 = .ok (.aload_n 0, 1) := by decide +kernel
theorem dX12_way_46 : decode cX12_way 46 = .ok (.iload_n 1, 1) := by decide +kernel
theorem dX12_way_47 : decode cX12_way 47 = .ok (.iload_n 2, 1) := by decide +kernel
theorem dX12_way_48 : decode cX12_way 48 = .ok (.invokevirtual 201, 3) := by decide +kernel
theorem dX12_way_51 : decode cX12_way 51 = .ok (.ireturn, 1) := by decide +kernel
set_option maxHeartbeats 4000000 in
set_option maxRecDepth 100000 in
theorem c_X12_count (l : Launch) (D : va_G) (g : Nat → ClassId) (sz : Nat) (mm : Nat) (p0 : Int32) (i_thrown : Int32) (m_s : Nat) (m_spare : Nat) (m_kept : Nat) (m_undone : Nat) (m_triedWay : Nat) (m_isKept : Nat) (i_undoMany : Int32) (m_tape : Nat) (i_length : Int32) (i_size : Int32) (i_p : Int32) (i_at : Int32) (i_token : Int32) (i_number : Int32) (i_letterMany : Int32) (i_fault : Int32) (i_faultAt : Int32) (m_letters : Nat) (i_isKnown : Int32) (m_choice : Nat) (m_row : Nat) (m_up : Nat) (m_low : Nat) (m_m : Nat) (m_bestUp : Nat) (m_bestLow : Nat) (m_replyUp : Nat) (m_replyLow : Nat) (m_worthUp : Nat) (m_worthLow : Nat) (m_bestWay : Nat) (i_seed : Int32) (m_told : Nat) (i_toldMany : Int32) (sf : Nat → Int32) (h_i_undoMany : 0 ≤ (i_undoMany : Int32).toInt ∧ (i_undoMany : Int32).toInt ≤ 8) (h_i_length : 0 ≤ (i_length : Int32).toInt ∧ (i_length : Int32).toInt ≤ 440) (h_i_size : 0 ≤ (i_size : Int32).toInt ∧ (i_size : Int32).toInt ≤ 440) (h_i_p : 0 ≤ (i_p : Int32).toInt ∧ (i_p : Int32).toInt ≤ 440) (h_i_at : 0 ≤ (i_at : Int32).toInt ∧ (i_at : Int32).toInt ≤ 440) (h_i_token : 0 ≤ (i_token : Int32).toInt ∧ (i_token : Int32).toInt ≤ 4) (h_i_number : 0 ≤ (i_number : Int32).toInt ∧ (i_number : Int32).toInt ≤ 814) (h_i_letterMany : (-440) ≤ (i_letterMany : Int32).toInt ∧ (i_letterMany : Int32).toInt ≤ 440) (h_i_faultAt : 0 ≤ (i_faultAt : Int32).toInt ∧ (i_faultAt : Int32).toInt ≤ 440) (h_i_isKnown : 0 ≤ (i_isKnown : Int32).toInt ∧ (i_isKnown : Int32).toInt ≤ 1) (h_i_toldMany : 0 ≤ (i_toldMany : Int32).toInt ∧ (i_toldMany : Int32).toInt ≤ 900) (hG : GS sf) : Met l yX12_count (.code yX12_count cX12_count 5 (some .int) :: wsL_law) ({ frames := 1, cells := 0, slots := 0, locals := 24 }) (va_Pc [.ref mm, .int p0] (fun U => U.heap.size = sz ∧ va_P D vwCl [(wO12 mm i_thrown m_s m_spare m_kept m_undone m_triedWay m_isKept i_undoMany m_tape i_length i_size i_p i_at i_token i_number i_letterMany i_fault i_faultAt m_letters i_isKnown m_choice m_row m_up m_low m_m m_bestUp m_bestLow m_replyUp m_replyLow m_worthUp m_worthLow m_bestWay i_seed m_told i_toldMany), (wI g m_s 0 193 sf)] U.heap ∧ va_K D vwCl (TY g) U ∧ va_D (fun _ => True) [(wO12 mm i_thrown m_s m_spare m_kept m_undone m_triedWay m_isKept i_undoMany m_tape i_length i_size i_p i_at i_token i_number i_letterMany i_fault i_faultAt m_letters i_isKnown m_choice m_row m_up m_low m_m m_bestUp m_bestLow m_replyUp m_replyLow m_worthUp m_worthLow m_bestWay i_seed m_told i_toldMany), (wI g m_s 0 193 sf)])) (va_Qi (fun r (_ : Unit) => (True) ∧ (CNT (sf 0).toInt (fun p => (sf (1 + p)).toInt) (fun p => (sf (25 + p)).toInt) (fun p => (sf (109 + p)).toInt) (i_length : Int32).toInt (p0 : Int32).toInt r)) (fun _ t => ∃ o_thrown : Int32, va_P D vwCl [(wO12 mm o_thrown m_s m_spare m_kept m_undone m_triedWay m_isKept i_undoMany m_tape i_length i_size i_p i_at i_token i_number i_letterMany i_fault i_faultAt m_letters i_isKnown m_choice m_row m_up m_low m_m m_bestUp m_bestLow m_replyUp m_replyLow m_worthUp m_worthLow m_bestWay i_seed m_told i_toldMany), (wI g m_s 0 193 sf)] t.heap ∧ va_D (va_A [(wO12 mm i_thrown m_s m_spare m_kept m_undone m_triedWay m_isKept i_undoMany m_tape i_length i_size i_p i_at i_token i_number i_letterMany i_fault i_faultAt m_letters i_isKnown m_choice m_row m_up m_low m_m m_bestUp m_bestLow m_replyUp m_replyLow m_worthUp m_worthLow m_bestWay i_seed m_told i_toldMany), (wI g m_s 0 193 sf)] sz) [(wO12 mm o_thrown m_s m_spare m_kept m_undone m_triedWay m_isKept i_undoMany m_tape i_length i_size i_p i_at i_token i_number i_letterMany i_fault i_faultAt m_letters i_isKnown m_choice m_row m_up m_low m_m m_bestUp m_bestLow m_replyUp m_replyLow m_worthUp m_worthLow m_bestWay i_seed m_told i_toldMany), (wI g m_s 0 193 sf)]) (va_A [(wO12 mm i_thrown m_s m_spare m_kept m_undone m_triedWay m_isKept i_undoMany m_tape i_length i_size i_p i_at i_token i_number i_letterMany i_fault i_faultAt m_letters i_isKnown m_choice m_row m_up m_low m_m m_bestUp m_bestLow m_replyUp m_replyLow m_worthUp m_worthLow m_bestWay i_seed m_told i_toldMany), (wI g m_s 0 193 sf)] sz)) 0 0 (va_A [(wO12 mm i_thrown m_s m_spare m_kept m_undone m_triedWay m_isKept i_undoMany m_tape i_length i_size i_p i_at i_token i_number i_letterMany i_fault i_faultAt m_letters i_isKnown m_choice m_row m_up m_low m_m m_bestUp m_bestLow m_replyUp m_replyLow m_worthUp m_worthLow m_bestWay i_seed m_told i_toldMany), (wI g m_s 0 193 sf)] sz) := by
  refine Met.ofW (cc := cX12_count) (maxL := 5) (ret := (some .int)) (by decide) rfl ?_
  intro p e s m args below meth c s₁ B hml hv
  obtain ⟨ha, hsz, hP, hK, hD0⟩ := hv
  have hx := B.exec
  have hb := B.bytes
  have hr := B.returns
  have hts0 := atoms_spec (ws := (.code yX12_count cX12_count 5 (some .int) :: wsL_law)) B.pre
  have hts : ∀ w ∈ wsL_law, w.before args s = true := fun w h => hts0 w (List.mem_cons_of_mem _ h)
  have hown : s.vm.findClass RX12 = some m.cls := findClass_of_methodNamed B.named
  have hlocks := B.notSynchronized
  subst hsz
  have hD := hD0.self (sz := s.heap.size)
  generalize hAe : va_A [(wO12 mm i_thrown m_s m_spare m_kept m_undone m_triedWay m_isKept i_undoMany m_tape i_length i_size i_p i_at i_token i_number i_letterMany i_fault i_faultAt m_letters i_isKnown m_choice m_row m_up m_low m_m m_bestUp m_bestLow m_replyUp m_replyLow m_worthUp m_worthLow m_bestWay i_seed m_told i_toldMany), (wI g m_s 0 193 sf)] s.heap.size = A at hD ⊢
  have hA : ∀ q : Nat, s.heap.size ≤ q → A q := fun q h => by rw [← hAe]; exact Or.inr h
  have hS : va_S A s.heap s.heap [] := va_S.rf
  have hP : va_P D vwCl [(wO12 mm i_thrown m_s m_spare m_kept m_undone m_triedWay m_isKept i_undoMany m_tape i_length i_size i_p i_at i_token i_number i_letterMany i_fault i_faultAt m_letters i_isKnown m_choice m_row m_up m_low m_m m_bestUp m_bestLow m_replyUp m_replyLow m_worthUp m_worthLow m_bestWay i_seed m_told i_toldMany), (wI g m_s 0 193 sf)] s.heap := hP
  refine W.eq (g2 := entryFrame m ([.ref mm, .int p0] : List Value).toArray 5) (by rw [ha]) ?_
  have hl := lv_entry ([.ref mm, .int p0]) (n := 5) (Nat.le_of_ble_eq_true rfl)
  rw [lg_entry_eq]
  generalize (lg_sl ([.ref mm, .int p0]) ++ List.replicate (5 - (lg_sl ([.ref mm, .int p0])).length) Slot.unset).toArray = ls at hl ⊢
  have hl : lv_has ls 5 [(0, .ref mm), (1, .int p0)] := hl
  have gn9 := hG.r.1
  refine lv_aload_n hx hb dX12_count_0 rfl (lv_at hl 0 rfl) ?_
  refine lv_iconst (v := 0) hx hb dX12_count_1 (by decide) ?_
  refine va_put (D := D) (ci := 12) (v := .int 0) (ty := .int) (C := RX12) (T := TX12) (N := 35) hx hb hts inlX12 tyX12 tyX12_ok nmX12 hown hK hP hD hS 0 rfl rfl 0 (by decide) (hts (Cond.fieldLink RX12 1 "ChanceRingsModel" "thrown" "I") qw_0) (fun _ h9 => h9) rfl (by decide +kernel) rfl rfl (Nat.le_of_ble_eq_true rfl) dX12_count_2 (fun H locs hP hD hS => ?_)
  have hP : va_P D vwCl [(wO12 mm 0 m_s m_spare m_kept m_undone m_triedWay m_isKept i_undoMany m_tape i_length i_size i_p i_at i_token i_number i_letterMany i_fault i_faultAt m_letters i_isKnown m_choice m_row m_up m_low m_m m_bestUp m_bestLow m_replyUp m_replyLow m_worthUp m_worthLow m_bestWay i_seed m_told i_toldMany), (wI g m_s 0 193 sf)] H := hP
  have hD : va_D A [(wO12 mm 0 m_s m_spare m_kept m_undone m_triedWay m_isKept i_undoMany m_tape i_length i_size i_p i_at i_token i_number i_letterMany i_fault i_faultAt m_letters i_isKnown m_choice m_row m_up m_low m_m m_bestUp m_bestLow m_replyUp m_replyLow m_worthUp m_worthLow m_bestWay i_seed m_told i_toldMany), (wI g m_s 0 193 sf)] := hD
  refine lv_iconst (v := 0) hx hb dX12_count_5 (by decide) ?_
  refine lv_istore_n (lv' := [(2, .int 0), (0, .ref mm), (1, .int p0)]) hx hb dX12_count_6 rfl hl (by decide) rfl (fun ls hl => ?_)
  refine lv_iconst (v := 0) hx hb dX12_count_7 (by decide) ?_
  refine lv_istore_n (lv' := [(3, .int 0), (2, .int 0), (0, .ref mm), (1, .int p0)]) hx hb dX12_count_8 rfl hl (by decide) rfl (fun ls hl => ?_)
  refine lv_iconst (v := 0) hx hb dX12_count_9 (by decide) ?_
  refine lv_istore (lv' := [(4, .int 0), (3, .int 0), (2, .int 0), (0, .ref mm), (1, .int p0)]) hx hb dX12_count_10 hl (by decide) rfl (fun ls hl => ?_)
  have lp_58832 : ∀ (n_58832 : Nat) (x_58829 : Int32) (x_58830 : Int32) (x_58831 : Int32) (H : Heap) (locs : List Loc) (ls : Array Slot), (0 ≤ (x_58829 : Int32).toInt ∧ (x_58829 : Int32).toInt ≤ 36) → (0 ≤ (x_58830 : Int32).toInt ∧ (x_58830 : Int32).toInt ≤ 4095) → (0 ≤ (x_58831 : Int32).toInt ∧ (x_58831 : Int32).toInt ≤ 12) → (x_58831.toInt ≤ (sf 0).toInt) → ((x_58829.toInt = wsf (fun p => (sf (25 + p)).toInt) x_58831.toInt.toNat ∧ x_58829.toInt ≤ 3 * x_58831.toInt) ∧ (x_58830 : Int32) = hbF (fun p => (sf (109 + p)).toInt) x_58831.toInt.toNat) → (12 - x_58831.toInt < (n_58832 : Int)) → va_P D vwCl [(wO12 mm 0 m_s m_spare m_kept m_undone m_triedWay m_isKept i_undoMany m_tape i_length i_size i_p i_at i_token i_number i_letterMany i_fault i_faultAt m_letters i_isKnown m_choice m_row m_up m_low m_m m_bestUp m_bestLow m_replyUp m_replyLow m_worthUp m_worthLow m_bestWay i_seed m_told i_toldMany), (wI g m_s 0 193 sf)] H → va_D A [(wO12 mm 0 m_s m_spare m_kept m_undone m_triedWay m_isKept i_undoMany m_tape i_length i_size i_p i_at i_token i_number i_letterMany i_fault i_faultAt m_letters i_isKnown m_choice m_row m_up m_low m_m m_bestUp m_bestLow m_replyUp m_replyLow m_worthUp m_worthLow m_bestWay i_seed m_told i_toldMany), (wI g m_s 0 193 sf)] → va_S A s.heap H locs → lv_has ls 5 [(4, .int x_58831), (3, .int x_58830), (2, .int x_58829), (0, .ref mm), (1, .int p0)] → W p l e (headSpec (.code yX12_count cX12_count 5 (some .int) :: wsL_law) ({ frames := 1, cells := 0, slots := 0, locals := 24 })).room s m args below meth c H locs 0 0 (MQ below (va_Qi (fun r (_ : Unit) => (True) ∧ (CNT (sf 0).toInt (fun p => (sf (1 + p)).toInt) (fun p => (sf (25 + p)).toInt) (fun p => (sf (109 + p)).toInt) (i_length : Int32).toInt (p0 : Int32).toInt r)) (fun _ t => ∃ o_thrown : Int32, va_P D vwCl [(wO12 mm o_thrown m_s m_spare m_kept m_undone m_triedWay m_isKept i_undoMany m_tape i_length i_size i_p i_at i_token i_number i_letterMany i_fault i_faultAt m_letters i_isKnown m_choice m_row m_up m_low m_m m_bestUp m_bestLow m_replyUp m_replyLow m_worthUp m_worthLow m_bestWay i_seed m_told i_toldMany), (wI g m_s 0 193 sf)] t.heap ∧ va_D A [(wO12 mm o_thrown m_s m_spare m_kept m_undone m_triedWay m_isKept i_undoMany m_tape i_length i_size i_p i_at i_token i_number i_letterMany i_fault i_faultAt m_letters i_isKnown m_choice m_row m_up m_low m_m m_bestUp m_bestLow m_replyUp m_replyLow m_worthUp m_worthLow m_bestWay i_seed m_told i_toldMany), (wI g m_s 0 193 sf)]) A) args s 0 0 A) (F0 m 12 ls []) := by
    intro n_58832
    induction n_58832 with
    | zero =>
      intro x_58829 x_58830 x_58831 H locs ls h_x_58829 h_x_58830 h_x_58831 hr58832_0 hr58832_1 hm_58832 hP hD hS hl
      exfalso; omega
    | succ n_58832 ih_58832 =>
      intro x_58829 x_58830 x_58831 H locs ls h_x_58829 h_x_58830 h_x_58831 hr58832_0 hr58832_1 hm_58832 hP hD hS hl
      refine lv_iload hx hb dX12_count_12 (lv_at hl 0 rfl) ?_
      refine lv_aload_n hx hb dX12_count_14 rfl (lv_at hl 3 rfl) ?_
      refine va_get (D := D) (ci := 12) (v := .ref m_s) (C := RX12) (T := TX12) (N := 35) hx hb hts inlX12 hown hK hP 0 rfl rfl 1 (by decide) (hts (Cond.fieldLink RX12 13 "ChanceRingsModel" "s" "[I") qw_73) (fun _ h9 => h9) rfl dX12_count_15 ?_
      refine lv_iconst (v := 0) hx hb dX12_count_18 (by decide) ?_
      refine va_iald hx hb hK hP 1 0 rfl rfl (tz_in (by decide +kernel)) dX12_count_19 ?_
      refine lv_topi (fun v_58833 v_58833_e => ?_)
      have h_v_58833 : 0 ≤ (v_58833 : Int32).toInt ∧ (v_58833 : Int32).toInt ≤ 12 := by rw [v_58833_e]; exact gr_nodes hG.r (⟨by decide, by decide⟩ : 0 ≤ (0 : Int32).toInt ∧ (0 : Int32).toInt ≤ 0)
      have g_v_58833 : v_58833 = sf (0) := v_58833_e.trans (congrArg sf rfl)
      have gi_v_58833 := congrArg Int32.toInt g_v_58833
      refine lv_icmp_ge (tgt := 66) hx hb dX12_count_20 (by decide) (fun c_58834 => ?_) (fun c_58834 => ?_)
      · skip
        have c_58834_i := Int32.le_iff_toInt_le.mp c_58834
        refine lv_iload_n hx hb dX12_count_66 rfl (lv_at hl 4 rfl) ?_
        by_cases e_58837 : p0 = 0
        · skip
          have h_58838 : 0 ≤ (p0 : Int32).toInt ∧ (p0 : Int32).toInt ≤ 0 := by rw [e_58837]; exact ⟨by decide, by decide⟩
          refine lv_tableIn (off := 45) (tgt := 112) hx hb dX12_count_67 (by rw [e_58837]; decide) (by rw [e_58837]; decide) (by rw [e_58837]; decide) (by decide) ?_
          refine lv_aload_n hx hb dX12_count_112 rfl (lv_at hl 3 rfl) ?_
          refine va_get (D := D) (ci := 12) (v := .ref m_s) (C := RX12) (T := TX12) (N := 35) hx hb hts inlX12 hown hK hP 0 rfl rfl 1 (by decide) (hts (Cond.fieldLink RX12 13 "ChanceRingsModel" "s" "[I") qw_73) (fun _ h9 => h9) rfl dX12_count_113 ?_
          refine lv_iconst (v := 0) hx hb dX12_count_116 (by decide) ?_
          refine va_iald hx hb hK hP 1 0 rfl rfl (tz_in (by decide +kernel)) dX12_count_117 ?_
          refine tz_i (y := v_58833) g_v_58833.symm ?_
          have hP9 := hP.sub (ws' := [(wO12 mm 0 m_s m_spare m_kept m_undone m_triedWay m_isKept i_undoMany m_tape i_length i_size i_p i_at i_token i_number i_letterMany i_fault i_faultAt m_letters i_isKnown m_choice m_row m_up m_low m_m m_bestUp m_bestLow m_replyUp m_replyLow m_worthUp m_worthLow m_bestWay i_seed m_told i_toldMany), (wI g m_s 0 193 sf)]) [0, 1] rfl
          have hD9 := hD.sub (ws' := [(wO12 mm 0 m_s m_spare m_kept m_undone m_triedWay m_isKept i_undoMany m_tape i_length i_size i_p i_at i_token i_number i_letterMany i_fault i_faultAt m_letters i_isKnown m_choice m_row m_up m_low m_m m_bestUp m_bestLow m_replyUp m_replyLow m_worthUp m_worthLow m_bestWay i_seed m_told i_toldMany), (wI g m_s 0 193 sf)]) [0, 1] (by decide) rfl
          exact W.iret (v := v_58833) hx hb hr (fun t ht hW => ⟨⟨v_58833, (), rfl, ⟨trivial, ⟨(fun _ => (gi_v_58833)), (fun h9 => absurd h9 (by (first | (clear h_i_undoMany h_i_length h_i_size h_i_p h_i_at h_i_token h_i_number h_i_letterMany h_i_faultAt h_i_isKnown h_i_toldMany h_x_58829 h_x_58830 h_58838; omega) | omega))), (fun h9 => absurd h9 (by (first | (clear h_i_undoMany h_i_length h_i_size h_i_p h_i_at h_i_token h_i_number h_i_letterMany h_i_faultAt h_i_isKnown h_i_toldMany h_x_58829 h_x_58830 h_58838; omega) | omega))), (fun h9 => absurd h9 (by (first | (clear h_i_undoMany h_i_length h_i_size h_i_p h_i_at h_i_token h_i_number h_i_letterMany h_i_faultAt h_i_isKnown h_i_toldMany h_x_58829 h_x_58830 h_58838; omega) | omega))), (fun h9 => absurd h9 (by (first | (clear h_i_undoMany h_i_length h_i_size h_i_p h_i_at h_i_token h_i_number h_i_letterMany h_i_faultAt h_i_isKnown h_i_toldMany h_x_58829 h_x_58830 h_58838; omega) | omega))), (fun h9 => absurd h9 (by (first | (clear h_i_undoMany h_i_length h_i_size h_i_p h_i_at h_i_token h_i_number h_i_letterMany h_i_faultAt h_i_isKnown h_i_toldMany h_x_58829 h_x_58830 h_58838; omega) | omega))), (fun h9 => absurd h9 (by (first | (clear h_i_undoMany h_i_length h_i_size h_i_p h_i_at h_i_token h_i_number h_i_letterMany h_i_faultAt h_i_isKnown h_i_toldMany h_x_58829 h_x_58830 h_58838; omega) | omega))), (fun h9 => absurd h9 (by (first | (clear h_i_undoMany h_i_length h_i_size h_i_p h_i_at h_i_token h_i_number h_i_letterMany h_i_faultAt h_i_isKnown h_i_toldMany h_x_58829 h_x_58830 h_58838; omega) | omega))), (fun h9 => absurd h9 (by (first | (clear h_i_undoMany h_i_length h_i_size h_i_p h_i_at h_i_token h_i_number h_i_letterMany h_i_faultAt h_i_isKnown h_i_toldMany h_x_58829 h_x_58830 h_58838; omega) | omega)))⟩⟩, 0, by rw [ht]; exact hP9, hD9⟩, hS.F ht⟩) hS.2.2 dX12_count_118
        · have e_58837_n : ¬ (p0 : Int32).toInt = 0 := fun q => e_58837 (Int32.toInt_inj.mp (q.trans (by decide)))
          by_cases e_58839 : p0 = 1
          · skip
            have h_58840 : 1 ≤ (p0 : Int32).toInt ∧ (p0 : Int32).toInt ≤ 1 := by rw [e_58839]; exact ⟨by decide, by decide⟩
            refine lv_tableIn (off := 52) (tgt := 119) hx hb dX12_count_67 (by rw [e_58839]; decide) (by rw [e_58839]; decide) (by rw [e_58839]; decide) (by decide) ?_
            refine lv_aload_n hx hb dX12_count_119 rfl (lv_at hl 3 rfl) ?_
            refine lv_aload_n hx hb dX12_count_120 rfl (lv_at hl 3 rfl) ?_
            refine va_get (D := D) (ci := 12) (v := .ref m_s) (C := RX12) (T := TX12) (N := 35) hx hb hts inlX12 hown hK hP 0 rfl rfl 1 (by decide) (hts (Cond.fieldLink RX12 13 "ChanceRingsModel" "s" "[I") qw_73) (fun _ h9 => h9) rfl dX12_count_121 ?_
            refine lv_iconst (v := 1) hx hb dX12_count_124 (by decide) ?_
            have hPc := hP.sub (ws' := [(wO12 mm 0 m_s m_spare m_kept m_undone m_triedWay m_isKept i_undoMany m_tape i_length i_size i_p i_at i_token i_number i_letterMany i_fault i_faultAt m_letters i_isKnown m_choice m_row m_up m_low m_m m_bestUp m_bestLow m_replyUp m_replyLow m_worthUp m_worthLow m_bestWay i_seed m_told i_toldMany), (wI g m_s 0 193 sf)]) [0, 1] rfl
            refine vp_callSi (va_Run.run (va_runV (As := [.ref m_s, .int 1]) (rest := []) ⟨hx, hb, hml, hown, hts⟩ (c_X12_manyOf l D g mm m_s 1 0 m_s m_spare m_kept m_undone m_triedWay m_isKept i_undoMany m_tape i_length i_size i_p i_at i_token i_number i_letterMany i_fault i_faultAt m_letters i_isKnown m_choice m_row m_up m_low m_m m_bestUp m_bestLow m_replyUp m_replyLow m_worthUp m_worthLow m_bestWay i_seed m_told i_toldMany sf (tr_w h_i_undoMany (by decide) (by decide)) (tr_w h_i_length (by decide) (by decide)) (tr_w h_i_size (by decide) (by decide)) (tr_w h_i_p (by decide) (by decide)) (tr_w h_i_at (by decide) (by decide)) (tr_w h_i_token (by decide) (by decide)) (tr_w h_i_number (by decide) (by decide)) (tr_w h_i_letterMany (by decide) (by decide)) (tr_w h_i_faultAt (by decide) (by decide)) (tr_w h_i_isKnown (by decide) (by decide)) (tr_w h_i_toldMany (by decide) (by decide)) hG.r) (cwV 2 hts (tz_gV qw_40 qw_41 qw_42 qw_3 qw_43) rfl rfl rfl (by decide +kernel) ⟨Nat.le_of_ble_eq_true rfl, Nat.le_of_ble_eq_true rfl⟩) ⟨tz_blS, va_recv hK hPc (ci := 12) (q0 := 0) rfl rfl, tz_preS hPc hK⟩ rfl rfl hl.1 rfl (lv_room (Nat.le_of_ble_eq_true rfl)) dX12_count_125 ⟨Nat.le_of_ble_eq_true rfl, Nat.le_of_ble_eq_true rfl⟩)) (fun r_58841 hw => ?_)
            have kk_1 := tk_1
            have kk_0 := tk_0
            have hw_58842 : 0 ≤ (r_58841 : Int32).toInt ∧ (r_58841 : Int32).toInt ≤ 12 := hw.1
            have hw_58842_p0 : (r_58841 : Int32).toInt = gc sf (1 : Int32).toInt (sf 0).toInt.toNat := hw.2
            have hP9 := hP.sub (ws' := [(wO12 mm 0 m_s m_spare m_kept m_undone m_triedWay m_isKept i_undoMany m_tape i_length i_size i_p i_at i_token i_number i_letterMany i_fault i_faultAt m_letters i_isKnown m_choice m_row m_up m_low m_m m_bestUp m_bestLow m_replyUp m_replyLow m_worthUp m_worthLow m_bestWay i_seed m_told i_toldMany), (wI g m_s 0 193 sf)]) [0, 1] rfl
            have hD9 := hD.sub (ws' := [(wO12 mm 0 m_s m_spare m_kept m_undone m_triedWay m_isKept i_undoMany m_tape i_length i_size i_p i_at i_token i_number i_letterMany i_fault i_faultAt m_letters i_isKnown m_choice m_row m_up m_low m_m m_bestUp m_bestLow m_replyUp m_replyLow m_worthUp m_worthLow m_bestWay i_seed m_told i_toldMany), (wI g m_s 0 193 sf)]) [0, 1] (by decide) rfl
            exact W.iret (v := r_58841) hx hb hr (fun t ht hW => ⟨⟨r_58841, (), rfl, ⟨trivial, ⟨(fun h9 => absurd h9 (by (first | (clear h_i_undoMany h_i_length h_i_size h_i_p h_i_at h_i_token h_i_number h_i_letterMany h_i_faultAt h_i_isKnown h_i_toldMany h_x_58829 h_x_58830 h_58840; omega) | omega))), (fun _ => (by have h7 := hw_58842_p0; rw [tk_1, gc_cnf] at h7; exact h7)), (fun h9 => absurd h9 (by (first | (clear h_i_undoMany h_i_length h_i_size h_i_p h_i_at h_i_token h_i_number h_i_letterMany h_i_faultAt h_i_isKnown h_i_toldMany h_x_58829 h_x_58830 h_58840; omega) | omega))), (fun h9 => absurd h9 (by (first | (clear h_i_undoMany h_i_length h_i_size h_i_p h_i_at h_i_token h_i_number h_i_letterMany h_i_faultAt h_i_isKnown h_i_toldMany h_x_58829 h_x_58830 h_58840; omega) | omega))), (fun h9 => absurd h9 (by (first | (clear h_i_undoMany h_i_length h_i_size h_i_p h_i_at h_i_token h_i_number h_i_letterMany h_i_faultAt h_i_isKnown h_i_toldMany h_x_58829 h_x_58830 h_58840; omega) | omega))), (fun h9 => absurd h9 (by (first | (clear h_i_undoMany h_i_length h_i_size h_i_p h_i_at h_i_token h_i_number h_i_letterMany h_i_faultAt h_i_isKnown h_i_toldMany h_x_58829 h_x_58830 h_58840; omega) | omega))), (fun h9 => absurd h9 (by (first | (clear h_i_undoMany h_i_length h_i_size h_i_p h_i_at h_i_token h_i_number h_i_letterMany h_i_faultAt h_i_isKnown h_i_toldMany h_x_58829 h_x_58830 h_58840; omega) | omega))), (fun h9 => absurd h9 (by (first | (clear h_i_undoMany h_i_length h_i_size h_i_p h_i_at h_i_token h_i_number h_i_letterMany h_i_faultAt h_i_isKnown h_i_toldMany h_x_58829 h_x_58830 h_58840; omega) | omega))), (fun h9 => absurd h9 (by (first | (clear h_i_undoMany h_i_length h_i_size h_i_p h_i_at h_i_token h_i_number h_i_letterMany h_i_faultAt h_i_isKnown h_i_toldMany h_x_58829 h_x_58830 h_58840; omega) | omega)))⟩⟩, 0, by rw [ht]; exact hP9, hD9⟩, hS.F ht⟩) hS.2.2 dX12_count_128
          · have e_58839_n : ¬ (p0 : Int32).toInt = 1 := fun q => e_58839 (Int32.toInt_inj.mp (q.trans (by decide)))
            by_cases e_58843 : p0 = 2
            · skip
              have h_58844 : 2 ≤ (p0 : Int32).toInt ∧ (p0 : Int32).toInt ≤ 2 := by rw [e_58843]; exact ⟨by decide, by decide⟩
              refine lv_tableIn (off := 62) (tgt := 129) hx hb dX12_count_67 (by rw [e_58843]; decide) (by rw [e_58843]; decide) (by rw [e_58843]; decide) (by decide) ?_
              refine lv_aload_n hx hb dX12_count_129 rfl (lv_at hl 3 rfl) ?_
              refine lv_aload_n hx hb dX12_count_130 rfl (lv_at hl 3 rfl) ?_
              refine va_get (D := D) (ci := 12) (v := .ref m_s) (C := RX12) (T := TX12) (N := 35) hx hb hts inlX12 hown hK hP 0 rfl rfl 1 (by decide) (hts (Cond.fieldLink RX12 13 "ChanceRingsModel" "s" "[I") qw_73) (fun _ h9 => h9) rfl dX12_count_131 ?_
              refine lv_iconst (v := 2) hx hb dX12_count_134 (by decide) ?_
              have hPc := hP.sub (ws' := [(wO12 mm 0 m_s m_spare m_kept m_undone m_triedWay m_isKept i_undoMany m_tape i_length i_size i_p i_at i_token i_number i_letterMany i_fault i_faultAt m_letters i_isKnown m_choice m_row m_up m_low m_m m_bestUp m_bestLow m_replyUp m_replyLow m_worthUp m_worthLow m_bestWay i_seed m_told i_toldMany), (wI g m_s 0 193 sf)]) [0, 1] rfl
              refine vp_callSi (va_Run.run (va_runV (As := [.ref m_s, .int 2]) (rest := []) ⟨hx, hb, hml, hown, hts⟩ (c_X12_manyOf l D g mm m_s 2 0 m_s m_spare m_kept m_undone m_triedWay m_isKept i_undoMany m_tape i_length i_size i_p i_at i_token i_number i_letterMany i_fault i_faultAt m_letters i_isKnown m_choice m_row m_up m_low m_m m_bestUp m_bestLow m_replyUp m_replyLow m_worthUp m_worthLow m_bestWay i_seed m_told i_toldMany sf (tr_w h_i_undoMany (by decide) (by decide)) (tr_w h_i_length (by decide) (by decide)) (tr_w h_i_size (by decide) (by decide)) (tr_w h_i_p (by decide) (by decide)) (tr_w h_i_at (by decide) (by decide)) (tr_w h_i_token (by decide) (by decide)) (tr_w h_i_number (by decide) (by decide)) (tr_w h_i_letterMany (by decide) (by decide)) (tr_w h_i_faultAt (by decide) (by decide)) (tr_w h_i_isKnown (by decide) (by decide)) (tr_w h_i_toldMany (by decide) (by decide)) hG.r) (cwV 2 hts (tz_gV qw_40 qw_41 qw_42 qw_3 qw_43) rfl rfl rfl (by decide +kernel) ⟨Nat.le_of_ble_eq_true rfl, Nat.le_of_ble_eq_true rfl⟩) ⟨tz_blS, va_recv hK hPc (ci := 12) (q0 := 0) rfl rfl, tz_preS hPc hK⟩ rfl rfl hl.1 rfl (lv_room (Nat.le_of_ble_eq_true rfl)) dX12_count_135 ⟨Nat.le_of_ble_eq_true rfl, Nat.le_of_ble_eq_true rfl⟩)) (fun r_58845 hw => ?_)
              have kk_2 := tk_2
              have kk_0 := tk_0
              have hw_58846 : 0 ≤ (r_58845 : Int32).toInt ∧ (r_58845 : Int32).toInt ≤ 12 := hw.1
              have hw_58846_p0 : (r_58845 : Int32).toInt = gc sf (2 : Int32).toInt (sf 0).toInt.toNat := hw.2
              have hP9 := hP.sub (ws' := [(wO12 mm 0 m_s m_spare m_kept m_undone m_triedWay m_isKept i_undoMany m_tape i_length i_size i_p i_at i_token i_number i_letterMany i_fault i_faultAt m_letters i_isKnown m_choice m_row m_up m_low m_m m_bestUp m_bestLow m_replyUp m_replyLow m_worthUp m_worthLow m_bestWay i_seed m_told i_toldMany), (wI g m_s 0 193 sf)]) [0, 1] rfl
              have hD9 := hD.sub (ws' := [(wO12 mm 0 m_s m_spare m_kept m_undone m_triedWay m_isKept i_undoMany m_tape i_length i_size i_p i_at i_token i_number i_letterMany i_fault i_faultAt m_letters i_isKnown m_choice m_row m_up m_low m_m m_bestUp m_bestLow m_replyUp m_replyLow m_worthUp m_worthLow m_bestWay i_seed m_told i_toldMany), (wI g m_s 0 193 sf)]) [0, 1] (by decide) rfl
              exact W.iret (v := r_58845) hx hb hr (fun t ht hW => ⟨⟨r_58845, (), rfl, ⟨trivial, ⟨(fun h9 => absurd h9 (by (first | (clear h_i_undoMany h_i_length h_i_size h_i_p h_i_at h_i_token h_i_number h_i_letterMany h_i_faultAt h_i_isKnown h_i_toldMany h_x_58829 h_x_58830 h_58844; omega) | omega))), (fun h9 => absurd h9 (by (first | (clear h_i_undoMany h_i_length h_i_size h_i_p h_i_at h_i_token h_i_number h_i_letterMany h_i_faultAt h_i_isKnown h_i_toldMany h_x_58829 h_x_58830 h_58844; omega) | omega))), (fun _ => (by have h7 := hw_58846_p0; rw [tk_2, gc_cnf] at h7; exact h7)), (fun h9 => absurd h9 (by (first | (clear h_i_undoMany h_i_length h_i_size h_i_p h_i_at h_i_token h_i_number h_i_letterMany h_i_faultAt h_i_isKnown h_i_toldMany h_x_58829 h_x_58830 h_58844; omega) | omega))), (fun h9 => absurd h9 (by (first | (clear h_i_undoMany h_i_length h_i_size h_i_p h_i_at h_i_token h_i_number h_i_letterMany h_i_faultAt h_i_isKnown h_i_toldMany h_x_58829 h_x_58830 h_58844; omega) | omega))), (fun h9 => absurd h9 (by (first | (clear h_i_undoMany h_i_length h_i_size h_i_p h_i_at h_i_token h_i_number h_i_letterMany h_i_faultAt h_i_isKnown h_i_toldMany h_x_58829 h_x_58830 h_58844; omega) | omega))), (fun h9 => absurd h9 (by (first | (clear h_i_undoMany h_i_length h_i_size h_i_p h_i_at h_i_token h_i_number h_i_letterMany h_i_faultAt h_i_isKnown h_i_toldMany h_x_58829 h_x_58830 h_58844; omega) | omega))), (fun h9 => absurd h9 (by (first | (clear h_i_undoMany h_i_length h_i_size h_i_p h_i_at h_i_token h_i_number h_i_letterMany h_i_faultAt h_i_isKnown h_i_toldMany h_x_58829 h_x_58830 h_58844; omega) | omega))), (fun h9 => absurd h9 (by (first | (clear h_i_undoMany h_i_length h_i_size h_i_p h_i_at h_i_token h_i_number h_i_letterMany h_i_faultAt h_i_isKnown h_i_toldMany h_x_58829 h_x_58830 h_58844; omega) | omega)))⟩⟩, 0, by rw [ht]; exact hP9, hD9⟩, hS.F ht⟩) hS.2.2 dX12_count_138
            · have e_58843_n : ¬ (p0 : Int32).toInt = 2 := fun q => e_58843 (Int32.toInt_inj.mp (q.trans (by decide)))
              by_cases e_58847 : p0 = 3
              · skip
                have h_58848 : 3 ≤ (p0 : Int32).toInt ∧ (p0 : Int32).toInt ≤ 3 := by rw [e_58847]; exact ⟨by decide, by decide⟩
                refine lv_tableIn (off := 72) (tgt := 139) hx hb dX12_count_67 (by rw [e_58847]; decide) (by rw [e_58847]; decide) (by rw [e_58847]; decide) (by decide) ?_
                refine lv_aload_n hx hb dX12_count_139 rfl (lv_at hl 3 rfl) ?_
                refine lv_aload_n hx hb dX12_count_140 rfl (lv_at hl 3 rfl) ?_
                refine va_get (D := D) (ci := 12) (v := .ref m_s) (C := RX12) (T := TX12) (N := 35) hx hb hts inlX12 hown hK hP 0 rfl rfl 1 (by decide) (hts (Cond.fieldLink RX12 13 "ChanceRingsModel" "s" "[I") qw_73) (fun _ h9 => h9) rfl dX12_count_141 ?_
                refine lv_iconst (v := 3) hx hb dX12_count_144 (by decide) ?_
                have hPc := hP.sub (ws' := [(wO12 mm 0 m_s m_spare m_kept m_undone m_triedWay m_isKept i_undoMany m_tape i_length i_size i_p i_at i_token i_number i_letterMany i_fault i_faultAt m_letters i_isKnown m_choice m_row m_up m_low m_m m_bestUp m_bestLow m_replyUp m_replyLow m_worthUp m_worthLow m_bestWay i_seed m_told i_toldMany), (wI g m_s 0 193 sf)]) [0, 1] rfl
                refine vp_callSi (va_Run.run (va_runV (As := [.ref m_s, .int 3]) (rest := []) ⟨hx, hb, hml, hown, hts⟩ (c_X12_manyOf l D g mm m_s 3 0 m_s m_spare m_kept m_undone m_triedWay m_isKept i_undoMany m_tape i_length i_size i_p i_at i_token i_number i_letterMany i_fault i_faultAt m_letters i_isKnown m_choice m_row m_up m_low m_m m_bestUp m_bestLow m_replyUp m_replyLow m_worthUp m_worthLow m_bestWay i_seed m_told i_toldMany sf (tr_w h_i_undoMany (by decide) (by decide)) (tr_w h_i_length (by decide) (by decide)) (tr_w h_i_size (by decide) (by decide)) (tr_w h_i_p (by decide) (by decide)) (tr_w h_i_at (by decide) (by decide)) (tr_w h_i_token (by decide) (by decide)) (tr_w h_i_number (by decide) (by decide)) (tr_w h_i_letterMany (by decide) (by decide)) (tr_w h_i_faultAt (by decide) (by decide)) (tr_w h_i_isKnown (by decide) (by decide)) (tr_w h_i_toldMany (by decide) (by decide)) hG.r) (cwV 2 hts (tz_gV qw_40 qw_41 qw_42 qw_3 qw_43) rfl rfl rfl (by decide +kernel) ⟨Nat.le_of_ble_eq_true rfl, Nat.le_of_ble_eq_true rfl⟩) ⟨tz_blS, va_recv hK hPc (ci := 12) (q0 := 0) rfl rfl, tz_preS hPc hK⟩ rfl rfl hl.1 rfl (lv_room (Nat.le_of_ble_eq_true rfl)) dX12_count_145 ⟨Nat.le_of_ble_eq_true rfl, Nat.le_of_ble_eq_true rfl⟩)) (fun r_58849 hw => ?_)
                have kk_3 := tk_3
                have kk_0 := tk_0
                have hw_58850 : 0 ≤ (r_58849 : Int32).toInt ∧ (r_58849 : Int32).toInt ≤ 12 := hw.1
                have hw_58850_p0 : (r_58849 : Int32).toInt = gc sf (3 : Int32).toInt (sf 0).toInt.toNat := hw.2
                have hP9 := hP.sub (ws' := [(wO12 mm 0 m_s m_spare m_kept m_undone m_triedWay m_isKept i_undoMany m_tape i_length i_size i_p i_at i_token i_number i_letterMany i_fault i_faultAt m_letters i_isKnown m_choice m_row m_up m_low m_m m_bestUp m_bestLow m_replyUp m_replyLow m_worthUp m_worthLow m_bestWay i_seed m_told i_toldMany), (wI g m_s 0 193 sf)]) [0, 1] rfl
                have hD9 := hD.sub (ws' := [(wO12 mm 0 m_s m_spare m_kept m_undone m_triedWay m_isKept i_undoMany m_tape i_length i_size i_p i_at i_token i_number i_letterMany i_fault i_faultAt m_letters i_isKnown m_choice m_row m_up m_low m_m m_bestUp m_bestLow m_replyUp m_replyLow m_worthUp m_worthLow m_bestWay i_seed m_told i_toldMany), (wI g m_s 0 193 sf)]) [0, 1] (by decide) rfl
                exact W.iret (v := r_58849) hx hb hr (fun t ht hW => ⟨⟨r_58849, (), rfl, ⟨trivial, ⟨(fun h9 => absurd h9 (by (first | (clear h_i_undoMany h_i_length h_i_size h_i_p h_i_at h_i_token h_i_number h_i_letterMany h_i_faultAt h_i_isKnown h_i_toldMany h_x_58829 h_x_58830 h_58848; omega) | omega))), (fun h9 => absurd h9 (by (first | (clear h_i_undoMany h_i_length h_i_size h_i_p h_i_at h_i_token h_i_number h_i_letterMany h_i_faultAt h_i_isKnown h_i_toldMany h_x_58829 h_x_58830 h_58848; omega) | omega))), (fun h9 => absurd h9 (by (first | (clear h_i_undoMany h_i_length h_i_size h_i_p h_i_at h_i_token h_i_number h_i_letterMany h_i_faultAt h_i_isKnown h_i_toldMany h_x_58829 h_x_58830 h_58848; omega) | omega))), (fun _ => (by have h7 := hw_58850_p0; rw [tk_3, gc_cnf] at h7; exact h7)), (fun h9 => absurd h9 (by (first | (clear h_i_undoMany h_i_length h_i_size h_i_p h_i_at h_i_token h_i_number h_i_letterMany h_i_faultAt h_i_isKnown h_i_toldMany h_x_58829 h_x_58830 h_58848; omega) | omega))), (fun h9 => absurd h9 (by (first | (clear h_i_undoMany h_i_length h_i_size h_i_p h_i_at h_i_token h_i_number h_i_letterMany h_i_faultAt h_i_isKnown h_i_toldMany h_x_58829 h_x_58830 h_58848; omega) | omega))), (fun h9 => absurd h9 (by (first | (clear h_i_undoMany h_i_length h_i_size h_i_p h_i_at h_i_token h_i_number h_i_letterMany h_i_faultAt h_i_isKnown h_i_toldMany h_x_58829 h_x_58830 h_58848; omega) | omega))), (fun h9 => absurd h9 (by (first | (clear h_i_undoMany h_i_length h_i_size h_i_p h_i_at h_i_token h_i_number h_i_letterMany h_i_faultAt h_i_isKnown h_i_toldMany h_x_58829 h_x_58830 h_58848; omega) | omega))), (fun h9 => absurd h9 (by (first | (clear h_i_undoMany h_i_length h_i_size h_i_p h_i_at h_i_token h_i_number h_i_letterMany h_i_faultAt h_i_isKnown h_i_toldMany h_x_58829 h_x_58830 h_58848; omega) | omega)))⟩⟩, 0, by rw [ht]; exact hP9, hD9⟩, hS.F ht⟩) hS.2.2 dX12_count_148
              · have e_58847_n : ¬ (p0 : Int32).toInt = 3 := fun q => e_58847 (Int32.toInt_inj.mp (q.trans (by decide)))
                by_cases e_58851 : p0 = 4
                · skip
                  have h_58852 : 4 ≤ (p0 : Int32).toInt ∧ (p0 : Int32).toInt ≤ 4 := by rw [e_58851]; exact ⟨by decide, by decide⟩
                  refine lv_tableIn (off := 82) (tgt := 149) hx hb dX12_count_67 (by rw [e_58851]; decide) (by rw [e_58851]; decide) (by rw [e_58851]; decide) (by decide) ?_
                  refine lv_aload_n hx hb dX12_count_149 rfl (lv_at hl 3 rfl) ?_
                  refine lv_aload_n hx hb dX12_count_150 rfl (lv_at hl 3 rfl) ?_
                  refine va_get (D := D) (ci := 12) (v := .ref m_s) (C := RX12) (T := TX12) (N := 35) hx hb hts inlX12 hown hK hP 0 rfl rfl 1 (by decide) (hts (Cond.fieldLink RX12 13 "ChanceRingsModel" "s" "[I") qw_73) (fun _ h9 => h9) rfl dX12_count_151 ?_
                  refine lv_iconst (v := 0) hx hb dX12_count_154 (by decide) ?_
                  have hPc := hP.sub (ws' := [(wO12 mm 0 m_s m_spare m_kept m_undone m_triedWay m_isKept i_undoMany m_tape i_length i_size i_p i_at i_token i_number i_letterMany i_fault i_faultAt m_letters i_isKnown m_choice m_row m_up m_low m_m m_bestUp m_bestLow m_replyUp m_replyLow m_worthUp m_worthLow m_bestWay i_seed m_told i_toldMany), (wI g m_s 0 193 sf)]) [0, 1] rfl
                  refine vp_callSi (va_Run.run (va_runV (As := [.ref m_s, .int 0]) (rest := []) ⟨hx, hb, hml, hown, hts⟩ (c_X12_manyOf l D g mm m_s 0 0 m_s m_spare m_kept m_undone m_triedWay m_isKept i_undoMany m_tape i_length i_size i_p i_at i_token i_number i_letterMany i_fault i_faultAt m_letters i_isKnown m_choice m_row m_up m_low m_m m_bestUp m_bestLow m_replyUp m_replyLow m_worthUp m_worthLow m_bestWay i_seed m_told i_toldMany sf (tr_w h_i_undoMany (by decide) (by decide)) (tr_w h_i_length (by decide) (by decide)) (tr_w h_i_size (by decide) (by decide)) (tr_w h_i_p (by decide) (by decide)) (tr_w h_i_at (by decide) (by decide)) (tr_w h_i_token (by decide) (by decide)) (tr_w h_i_number (by decide) (by decide)) (tr_w h_i_letterMany (by decide) (by decide)) (tr_w h_i_faultAt (by decide) (by decide)) (tr_w h_i_isKnown (by decide) (by decide)) (tr_w h_i_toldMany (by decide) (by decide)) hG.r) (cwV 2 hts (tz_gV qw_40 qw_41 qw_42 qw_3 qw_43) rfl rfl rfl (by decide +kernel) ⟨Nat.le_of_ble_eq_true rfl, Nat.le_of_ble_eq_true rfl⟩) ⟨tz_blS, va_recv hK hPc (ci := 12) (q0 := 0) rfl rfl, tz_preS hPc hK⟩ rfl rfl hl.1 rfl (lv_room (Nat.le_of_ble_eq_true rfl)) dX12_count_155 ⟨Nat.le_of_ble_eq_true rfl, Nat.le_of_ble_eq_true rfl⟩)) (fun r_58853 hw => ?_)
                  have kk_0 := tk_0
                  have hw_58854 : 0 ≤ (r_58853 : Int32).toInt ∧ (r_58853 : Int32).toInt ≤ 12 := hw.1
                  have hw_58854_p0 : (r_58853 : Int32).toInt = gc sf (0 : Int32).toInt (sf 0).toInt.toNat := hw.2
                  have hP9 := hP.sub (ws' := [(wO12 mm 0 m_s m_spare m_kept m_undone m_triedWay m_isKept i_undoMany m_tape i_length i_size i_p i_at i_token i_number i_letterMany i_fault i_faultAt m_letters i_isKnown m_choice m_row m_up m_low m_m m_bestUp m_bestLow m_replyUp m_replyLow m_worthUp m_worthLow m_bestWay i_seed m_told i_toldMany), (wI g m_s 0 193 sf)]) [0, 1] rfl
                  have hD9 := hD.sub (ws' := [(wO12 mm 0 m_s m_spare m_kept m_undone m_triedWay m_isKept i_undoMany m_tape i_length i_size i_p i_at i_token i_number i_letterMany i_fault i_faultAt m_letters i_isKnown m_choice m_row m_up m_low m_m m_bestUp m_bestLow m_replyUp m_replyLow m_worthUp m_worthLow m_bestWay i_seed m_told i_toldMany), (wI g m_s 0 193 sf)]) [0, 1] (by decide) rfl
                  exact W.iret (v := r_58853) hx hb hr (fun t ht hW => ⟨⟨r_58853, (), rfl, ⟨trivial, ⟨(fun h9 => absurd h9 (by (first | (clear h_i_undoMany h_i_length h_i_size h_i_p h_i_at h_i_token h_i_number h_i_letterMany h_i_faultAt h_i_isKnown h_i_toldMany h_x_58829 h_x_58830 h_58852; omega) | omega))), (fun h9 => absurd h9 (by (first | (clear h_i_undoMany h_i_length h_i_size h_i_p h_i_at h_i_token h_i_number h_i_letterMany h_i_faultAt h_i_isKnown h_i_toldMany h_x_58829 h_x_58830 h_58852; omega) | omega))), (fun h9 => absurd h9 (by (first | (clear h_i_undoMany h_i_length h_i_size h_i_p h_i_at h_i_token h_i_number h_i_letterMany h_i_faultAt h_i_isKnown h_i_toldMany h_x_58829 h_x_58830 h_58852; omega) | omega))), (fun h9 => absurd h9 (by (first | (clear h_i_undoMany h_i_length h_i_size h_i_p h_i_at h_i_token h_i_number h_i_letterMany h_i_faultAt h_i_isKnown h_i_toldMany h_x_58829 h_x_58830 h_58852; omega) | omega))), (fun _ => (by have h7 := hw_58854_p0; rw [tk_0, gc_cnf] at h7; exact h7)), (fun h9 => absurd h9 (by (first | (clear h_i_undoMany h_i_length h_i_size h_i_p h_i_at h_i_token h_i_number h_i_letterMany h_i_faultAt h_i_isKnown h_i_toldMany h_x_58829 h_x_58830 h_58852; omega) | omega))), (fun h9 => absurd h9 (by (first | (clear h_i_undoMany h_i_length h_i_size h_i_p h_i_at h_i_token h_i_number h_i_letterMany h_i_faultAt h_i_isKnown h_i_toldMany h_x_58829 h_x_58830 h_58852; omega) | omega))), (fun h9 => absurd h9 (by (first | (clear h_i_undoMany h_i_length h_i_size h_i_p h_i_at h_i_token h_i_number h_i_letterMany h_i_faultAt h_i_isKnown h_i_toldMany h_x_58829 h_x_58830 h_58852; omega) | omega))), (fun h9 => absurd h9 (by (first | (clear h_i_undoMany h_i_length h_i_size h_i_p h_i_at h_i_token h_i_number h_i_letterMany h_i_faultAt h_i_isKnown h_i_toldMany h_x_58829 h_x_58830 h_58852; omega) | omega)))⟩⟩, 0, by rw [ht]; exact hP9, hD9⟩, hS.F ht⟩) hS.2.2 dX12_count_158
                · have e_58851_n : ¬ (p0 : Int32).toInt = 4 := fun q => e_58851 (Int32.toInt_inj.mp (q.trans (by decide)))
                  by_cases e_58855 : p0 = 5
                  · skip
                    have h_58856 : 5 ≤ (p0 : Int32).toInt ∧ (p0 : Int32).toInt ≤ 5 := by rw [e_58855]; exact ⟨by decide, by decide⟩
                    refine lv_tableIn (off := 92) (tgt := 159) hx hb dX12_count_67 (by rw [e_58855]; decide) (by rw [e_58855]; decide) (by rw [e_58855]; decide) (by decide) ?_
                    refine lv_iload_n hx hb dX12_count_159 rfl (lv_at hl 2 rfl) ?_
                    have hP9 := hP.sub (ws' := [(wO12 mm 0 m_s m_spare m_kept m_undone m_triedWay m_isKept i_undoMany m_tape i_length i_size i_p i_at i_token i_number i_letterMany i_fault i_faultAt m_letters i_isKnown m_choice m_row m_up m_low m_m m_bestUp m_bestLow m_replyUp m_replyLow m_worthUp m_worthLow m_bestWay i_seed m_told i_toldMany), (wI g m_s 0 193 sf)]) [0, 1] rfl
                    have hD9 := hD.sub (ws' := [(wO12 mm 0 m_s m_spare m_kept m_undone m_triedWay m_isKept i_undoMany m_tape i_length i_size i_p i_at i_token i_number i_letterMany i_fault i_faultAt m_letters i_isKnown m_choice m_row m_up m_low m_m m_bestUp m_bestLow m_replyUp m_replyLow m_worthUp m_worthLow m_bestWay i_seed m_told i_toldMany), (wI g m_s 0 193 sf)]) [0, 1] (by decide) rfl
                    exact W.iret (v := x_58829) hx hb hr (fun t ht hW => ⟨⟨x_58829, (), rfl, ⟨trivial, ⟨(fun h9 => absurd h9 (by (first | (clear h_i_undoMany h_i_length h_i_size h_i_p h_i_at h_i_token h_i_number h_i_letterMany h_i_faultAt h_i_isKnown h_i_toldMany h_x_58830 h_58856; omega) | omega))), (fun h9 => absurd h9 (by (first | (clear h_i_undoMany h_i_length h_i_size h_i_p h_i_at h_i_token h_i_number h_i_letterMany h_i_faultAt h_i_isKnown h_i_toldMany h_x_58830 h_58856; omega) | omega))), (fun h9 => absurd h9 (by (first | (clear h_i_undoMany h_i_length h_i_size h_i_p h_i_at h_i_token h_i_number h_i_letterMany h_i_faultAt h_i_isKnown h_i_toldMany h_x_58830 h_58856; omega) | omega))), (fun h9 => absurd h9 (by (first | (clear h_i_undoMany h_i_length h_i_size h_i_p h_i_at h_i_token h_i_number h_i_letterMany h_i_faultAt h_i_isKnown h_i_toldMany h_x_58830 h_58856; omega) | omega))), (fun h9 => absurd h9 (by (first | (clear h_i_undoMany h_i_length h_i_size h_i_p h_i_at h_i_token h_i_number h_i_letterMany h_i_faultAt h_i_isKnown h_i_toldMany h_x_58830 h_58856; omega) | omega))), (fun _ => (hr58832_1.1.1.trans (congrArg (wsf (fun p => (sf (25 + p)).toInt)) (by have q8 := gi_v_58833; (first | (clear h_i_undoMany h_i_length h_i_size h_i_p h_i_at h_i_token h_i_number h_i_letterMany h_i_faultAt h_i_isKnown h_i_toldMany h_x_58830 h_58856; omega) | omega))))), (fun h9 => absurd h9 (by (first | (clear h_i_undoMany h_i_length h_i_size h_i_p h_i_at h_i_token h_i_number h_i_letterMany h_i_faultAt h_i_isKnown h_i_toldMany h_x_58830 h_58856; omega) | omega))), (fun h9 => absurd h9 (by (first | (clear h_i_undoMany h_i_length h_i_size h_i_p h_i_at h_i_token h_i_number h_i_letterMany h_i_faultAt h_i_isKnown h_i_toldMany h_x_58830 h_58856; omega) | omega))), (fun h9 => absurd h9 (by (first | (clear h_i_undoMany h_i_length h_i_size h_i_p h_i_at h_i_token h_i_number h_i_letterMany h_i_faultAt h_i_isKnown h_i_toldMany h_x_58830 h_58856; omega) | omega)))⟩⟩, 0, by rw [ht]; exact hP9, hD9⟩, hS.F ht⟩) hS.2.2 dX12_count_160
                  · have e_58855_n : ¬ (p0 : Int32).toInt = 5 := fun q => e_58855 (Int32.toInt_inj.mp (q.trans (by decide)))
                    by_cases e_58857 : p0 = 6
                    · skip
                      have h_58858 : 6 ≤ (p0 : Int32).toInt ∧ (p0 : Int32).toInt ≤ 6 := by rw [e_58857]; exact ⟨by decide, by decide⟩
                      refine lv_tableIn (off := 94) (tgt := 161) hx hb dX12_count_67 (by rw [e_58857]; decide) (by rw [e_58857]; decide) (by rw [e_58857]; decide) (by decide) ?_
                      refine lv_iload_n hx hb dX12_count_161 rfl (lv_at hl 1 rfl) ?_
                      have hP9 := hP.sub (ws' := [(wO12 mm 0 m_s m_spare m_kept m_undone m_triedWay m_isKept i_undoMany m_tape i_length i_size i_p i_at i_token i_number i_letterMany i_fault i_faultAt m_letters i_isKnown m_choice m_row m_up m_low m_m m_bestUp m_bestLow m_replyUp m_replyLow m_worthUp m_worthLow m_bestWay i_seed m_told i_toldMany), (wI g m_s 0 193 sf)]) [0, 1] rfl
                      have hD9 := hD.sub (ws' := [(wO12 mm 0 m_s m_spare m_kept m_undone m_triedWay m_isKept i_undoMany m_tape i_length i_size i_p i_at i_token i_number i_letterMany i_fault i_faultAt m_letters i_isKnown m_choice m_row m_up m_low m_m m_bestUp m_bestLow m_replyUp m_replyLow m_worthUp m_worthLow m_bestWay i_seed m_told i_toldMany), (wI g m_s 0 193 sf)]) [0, 1] (by decide) rfl
                      exact W.iret (v := x_58830) hx hb hr (fun t ht hW => ⟨⟨x_58830, (), rfl, ⟨trivial, ⟨(fun h9 => absurd h9 (by (first | (clear h_i_undoMany h_i_length h_i_size h_i_p h_i_at h_i_token h_i_number h_i_letterMany h_i_faultAt h_i_isKnown h_i_toldMany h_x_58829 h_58858; omega) | omega))), (fun h9 => absurd h9 (by (first | (clear h_i_undoMany h_i_length h_i_size h_i_p h_i_at h_i_token h_i_number h_i_letterMany h_i_faultAt h_i_isKnown h_i_toldMany h_x_58829 h_58858; omega) | omega))), (fun h9 => absurd h9 (by (first | (clear h_i_undoMany h_i_length h_i_size h_i_p h_i_at h_i_token h_i_number h_i_letterMany h_i_faultAt h_i_isKnown h_i_toldMany h_x_58829 h_58858; omega) | omega))), (fun h9 => absurd h9 (by (first | (clear h_i_undoMany h_i_length h_i_size h_i_p h_i_at h_i_token h_i_number h_i_letterMany h_i_faultAt h_i_isKnown h_i_toldMany h_x_58829 h_58858; omega) | omega))), (fun h9 => absurd h9 (by (first | (clear h_i_undoMany h_i_length h_i_size h_i_p h_i_at h_i_token h_i_number h_i_letterMany h_i_faultAt h_i_isKnown h_i_toldMany h_x_58829 h_58858; omega) | omega))), (fun h9 => absurd h9 (by (first | (clear h_i_undoMany h_i_length h_i_size h_i_p h_i_at h_i_token h_i_number h_i_letterMany h_i_faultAt h_i_isKnown h_i_toldMany h_x_58829 h_58858; omega) | omega))), (fun _ => (hr58832_1.2.trans (congrArg (hbF (fun p => (sf (109 + p)).toInt)) (by have q8 := gi_v_58833; (first | (clear h_i_undoMany h_i_length h_i_size h_i_p h_i_at h_i_token h_i_number h_i_letterMany h_i_faultAt h_i_isKnown h_i_toldMany h_x_58829 h_58858; omega) | omega))))), (fun h9 => absurd h9 (by (first | (clear h_i_undoMany h_i_length h_i_size h_i_p h_i_at h_i_token h_i_number h_i_letterMany h_i_faultAt h_i_isKnown h_i_toldMany h_x_58829 h_58858; omega) | omega))), (fun h9 => absurd h9 (by (first | (clear h_i_undoMany h_i_length h_i_size h_i_p h_i_at h_i_token h_i_number h_i_letterMany h_i_faultAt h_i_isKnown h_i_toldMany h_x_58829 h_58858; omega) | omega)))⟩⟩, 0, by rw [ht]; exact hP9, hD9⟩, hS.F ht⟩) hS.2.2 dX12_count_162
                    · have e_58857_n : ¬ (p0 : Int32).toInt = 6 := fun q => e_58857 (Int32.toInt_inj.mp (q.trans (by decide)))
                      by_cases e_58859 : p0 = 7
                      · skip
                        have h_58860 : 7 ≤ (p0 : Int32).toInt ∧ (p0 : Int32).toInt ≤ 7 := by rw [e_58859]; exact ⟨by decide, by decide⟩
                        refine lv_tableIn (off := 96) (tgt := 163) hx hb dX12_count_67 (by rw [e_58859]; decide) (by rw [e_58859]; decide) (by rw [e_58859]; decide) (by decide) ?_
                        refine lv_aload_n hx hb dX12_count_163 rfl (lv_at hl 3 rfl) ?_
                        refine va_get (D := D) (ci := 12) (v := .int i_length) (C := RX12) (T := TX12) (N := 35) hx hb hts inlX12 hown hK hP 0 rfl rfl 9 (by decide) (hts (Cond.fieldLink RX12 82 "ChanceRingsModel" "length" "I") qw_6) (fun _ h9 => h9) rfl dX12_count_164 ?_
                        have hP9 := hP.sub (ws' := [(wO12 mm 0 m_s m_spare m_kept m_undone m_triedWay m_isKept i_undoMany m_tape i_length i_size i_p i_at i_token i_number i_letterMany i_fault i_faultAt m_letters i_isKnown m_choice m_row m_up m_low m_m m_bestUp m_bestLow m_replyUp m_replyLow m_worthUp m_worthLow m_bestWay i_seed m_told i_toldMany), (wI g m_s 0 193 sf)]) [0, 1] rfl
                        have hD9 := hD.sub (ws' := [(wO12 mm 0 m_s m_spare m_kept m_undone m_triedWay m_isKept i_undoMany m_tape i_length i_size i_p i_at i_token i_number i_letterMany i_fault i_faultAt m_letters i_isKnown m_choice m_row m_up m_low m_m m_bestUp m_bestLow m_replyUp m_replyLow m_worthUp m_worthLow m_bestWay i_seed m_told i_toldMany), (wI g m_s 0 193 sf)]) [0, 1] (by decide) rfl
                        exact W.iret (v := i_length) hx hb hr (fun t ht hW => ⟨⟨i_length, (), rfl, ⟨trivial, ⟨(fun h9 => absurd h9 (by (first | (clear h_i_undoMany h_i_size h_i_p h_i_at h_i_token h_i_number h_i_letterMany h_i_faultAt h_i_isKnown h_i_toldMany h_x_58829 h_x_58830 h_x_58831 h_v_58833 g_v_58833 gi_v_58833 c_58834_i h_58860; omega) | omega))), (fun h9 => absurd h9 (by (first | (clear h_i_undoMany h_i_size h_i_p h_i_at h_i_token h_i_number h_i_letterMany h_i_faultAt h_i_isKnown h_i_toldMany h_x_58829 h_x_58830 h_x_58831 h_v_58833 g_v_58833 gi_v_58833 c_58834_i h_58860; omega) | omega))), (fun h9 => absurd h9 (by (first | (clear h_i_undoMany h_i_size h_i_p h_i_at h_i_token h_i_number h_i_letterMany h_i_faultAt h_i_isKnown h_i_toldMany h_x_58829 h_x_58830 h_x_58831 h_v_58833 g_v_58833 gi_v_58833 c_58834_i h_58860; omega) | omega))), (fun h9 => absurd h9 (by (first | (clear h_i_undoMany h_i_size h_i_p h_i_at h_i_token h_i_number h_i_letterMany h_i_faultAt h_i_isKnown h_i_toldMany h_x_58829 h_x_58830 h_x_58831 h_v_58833 g_v_58833 gi_v_58833 c_58834_i h_58860; omega) | omega))), (fun h9 => absurd h9 (by (first | (clear h_i_undoMany h_i_size h_i_p h_i_at h_i_token h_i_number h_i_letterMany h_i_faultAt h_i_isKnown h_i_toldMany h_x_58829 h_x_58830 h_x_58831 h_v_58833 g_v_58833 gi_v_58833 c_58834_i h_58860; omega) | omega))), (fun h9 => absurd h9 (by (first | (clear h_i_undoMany h_i_size h_i_p h_i_at h_i_token h_i_number h_i_letterMany h_i_faultAt h_i_isKnown h_i_toldMany h_x_58829 h_x_58830 h_x_58831 h_v_58833 g_v_58833 gi_v_58833 c_58834_i h_58860; omega) | omega))), (fun h9 => absurd h9 (by (first | (clear h_i_undoMany h_i_size h_i_p h_i_at h_i_token h_i_number h_i_letterMany h_i_faultAt h_i_isKnown h_i_toldMany h_x_58829 h_x_58830 h_x_58831 h_v_58833 g_v_58833 gi_v_58833 c_58834_i h_58860; omega) | omega))), (fun _ => rfl), (fun h9 => absurd h9 (by (first | (clear h_i_undoMany h_i_size h_i_p h_i_at h_i_token h_i_number h_i_letterMany h_i_faultAt h_i_isKnown h_i_toldMany h_x_58829 h_x_58830 h_x_58831 h_v_58833 g_v_58833 gi_v_58833 c_58834_i h_58860; omega) | omega)))⟩⟩, 0, by rw [ht]; exact hP9, hD9⟩, hS.F ht⟩) hS.2.2 dX12_count_167
                      · have e_58859_n : ¬ (p0 : Int32).toInt = 7 := fun q => e_58859 (Int32.toInt_inj.mp (q.trans (by decide)))
                        refine lv_tableOut (tgt := 168) hx hb dX12_count_67 (by omega) (by decide) ?_
                        refine lv_iconst (v := (-1)) hx hb dX12_count_168 (by decide) ?_
                        have hP9 := hP.sub (ws' := [(wO12 mm 0 m_s m_spare m_kept m_undone m_triedWay m_isKept i_undoMany m_tape i_length i_size i_p i_at i_token i_number i_letterMany i_fault i_faultAt m_letters i_isKnown m_choice m_row m_up m_low m_m m_bestUp m_bestLow m_replyUp m_replyLow m_worthUp m_worthLow m_bestWay i_seed m_told i_toldMany), (wI g m_s 0 193 sf)]) [0, 1] rfl
                        have hD9 := hD.sub (ws' := [(wO12 mm 0 m_s m_spare m_kept m_undone m_triedWay m_isKept i_undoMany m_tape i_length i_size i_p i_at i_token i_number i_letterMany i_fault i_faultAt m_letters i_isKnown m_choice m_row m_up m_low m_m m_bestUp m_bestLow m_replyUp m_replyLow m_worthUp m_worthLow m_bestWay i_seed m_told i_toldMany), (wI g m_s 0 193 sf)]) [0, 1] (by decide) rfl
                        exact W.iret (v := (-1)) hx hb hr (fun t ht hW => ⟨⟨(-1), (), rfl, ⟨trivial, ⟨(fun h9 => absurd h9 (by omega)), (fun h9 => absurd h9 (by omega)), (fun h9 => absurd h9 (by omega)), (fun h9 => absurd h9 (by omega)), (fun h9 => absurd h9 (by omega)), (fun h9 => absurd h9 (by omega)), (fun h9 => absurd h9 (by omega)), (fun h9 => absurd h9 (by omega)), (fun _ => tk_m1)⟩⟩, 0, by rw [ht]; exact hP9, hD9⟩, hS.F ht⟩) hS.2.2 dX12_count_169
      · skip
        have c_58834_i := Int32.lt_iff_toInt_lt.mp (Int32.not_le.mp c_58834)
        have h_58835 : 0 ≤ (x_58831 : Int32).toInt ∧ (x_58831 : Int32).toInt ≤ 11 := nr_lt_l h_x_58831 h_v_58833 c_58834_i (by decide) (by decide)
        have h_58836 : 1 ≤ (v_58833 : Int32).toInt ∧ (v_58833 : Int32).toInt ≤ 12 := nr_lt_r h_x_58831 h_v_58833 c_58834_i (by decide) (by decide)
        refine lv_iload_n hx hb dX12_count_23 rfl (lv_at hl 2 rfl) ?_
        refine lv_aload_n hx hb dX12_count_24 rfl (lv_at hl 3 rfl) ?_
        refine va_get (D := D) (ci := 12) (v := .ref m_s) (C := RX12) (T := TX12) (N := 35) hx hb hts inlX12 hown hK hP 0 rfl rfl 1 (by decide) (hts (Cond.fieldLink RX12 13 "ChanceRingsModel" "s" "[I") qw_73) (fun _ h9 => h9) rfl dX12_count_25 ?_
        refine lv_bipush (v := 25) hx hb dX12_count_28 (by decide) ?_
        refine lv_iload hx hb dX12_count_30 (lv_at hl 0 rfl) ?_
        refine lv_iadd hx hb dX12_count_32 ?_
        refine lv_topi (fun v_58861 v_58861_e => ?_)
        have h_v_58861 : 25 ≤ (v_58861 : Int32).toInt ∧ (v_58861 : Int32).toInt ≤ 36 := by rw [v_58861_e]; exact tr_add (⟨by decide, by decide⟩ : 25 ≤ (25 : Int32).toInt ∧ (25 : Int32).toInt ≤ 25) h_58835 (by decide) (by decide) (by decide) (by decide)
        have q_v_58861 : v_58861.toInt = 25 + x_58831.toInt := by rw [v_58861_e]; exact (tr_addX (⟨by decide, by decide⟩ : 25 ≤ (25 : Int32).toInt ∧ (25 : Int32).toInt ≤ 25) h_58835 (by decide) (by decide)).trans (by rw [tk_25])
        refine va_iald hx hb hK hP 1 0 rfl rfl (tr_in h_v_58861 (by decide) (by decide)) dX12_count_33 ?_
        refine lv_topi (fun v_58862 v_58862_e => ?_)
        have h_v_58862 : 0 ≤ (v_58862 : Int32).toInt ∧ (v_58862 : Int32).toInt ≤ 3 := by rw [v_58862_e]; exact gr_ways hG.r (tr_w h_v_58861 (by decide) (by decide))
        have g_v_58862 : v_58862 = sf (25 + x_58831.toInt.toNat) := v_58862_e.trans (congrArg sf (by show Int.toNat _ = _; (first | (clear h_i_undoMany h_i_length h_i_size h_i_p h_i_at h_i_token h_i_number h_i_letterMany h_i_faultAt h_i_isKnown h_i_toldMany h_x_58829 h_x_58830; omega) | omega)))
        have gi_v_58862 := congrArg Int32.toInt g_v_58862
        refine lv_iadd hx hb dX12_count_34 ?_
        refine lv_topi (fun v_58863 v_58863_e => ?_)
        have h_v_58863 : 0 ≤ (v_58863 : Int32).toInt ∧ (v_58863 : Int32).toInt ≤ 39 := by rw [v_58863_e]; exact tr_add h_x_58829 h_v_58862 (by decide) (by decide) (by decide) (by decide)
        have q_v_58863 : v_58863.toInt = x_58829.toInt + v_58862.toInt := by rw [v_58863_e]; exact tr_addX h_x_58829 h_v_58862 (by decide) (by decide)
        refine lv_istore_n (lv' := [(2, .int v_58863), (4, .int x_58831), (3, .int x_58830), (0, .ref mm), (1, .int p0)]) hx hb dX12_count_35 rfl hl (by decide) rfl (fun ls hl => ?_)
        refine lv_iload_n hx hb dX12_count_36 rfl (lv_at hl 2 rfl) ?_
        refine lv_aload_n hx hb dX12_count_37 rfl (lv_at hl 3 rfl) ?_
        refine va_get (D := D) (ci := 12) (v := .ref m_s) (C := RX12) (T := TX12) (N := 35) hx hb hts inlX12 hown hK hP 0 rfl rfl 1 (by decide) (hts (Cond.fieldLink RX12 13 "ChanceRingsModel" "s" "[I") qw_73) (fun _ h9 => h9) rfl dX12_count_38 ?_
        refine lv_bipush (v := 109) hx hb dX12_count_41 (by decide) ?_
        refine lv_iload hx hb dX12_count_43 (lv_at hl 1 rfl) ?_
        refine lv_iadd hx hb dX12_count_45 ?_
        refine lv_topi (fun v_58864 v_58864_e => ?_)
        have h_v_58864 : 109 ≤ (v_58864 : Int32).toInt ∧ (v_58864 : Int32).toInt ≤ 120 := by rw [v_58864_e]; exact tr_add (⟨by decide, by decide⟩ : 109 ≤ (109 : Int32).toInt ∧ (109 : Int32).toInt ≤ 109) h_58835 (by decide) (by decide) (by decide) (by decide)
        have q_v_58864 : v_58864.toInt = 109 + x_58831.toInt := by rw [v_58864_e]; exact (tr_addX (⟨by decide, by decide⟩ : 109 ≤ (109 : Int32).toInt ∧ (109 : Int32).toInt ≤ 109) h_58835 (by decide) (by decide)).trans (by rw [tk_109])
        refine va_iald hx hb hK hP 1 0 rfl rfl (tr_in h_v_58864 (by decide) (by decide)) dX12_count_46 ?_
        refine lv_topi (fun v_58865 v_58865_e => ?_)
        have h_v_58865 : (-1) ≤ (v_58865 : Int32).toInt ∧ (v_58865 : Int32).toInt ≤ 2 := by rw [v_58865_e]; exact gr_held hG.r (tr_w h_v_58864 (by decide) (by decide))
        have g_v_58865 : v_58865 = sf (109 + x_58831.toInt.toNat) := v_58865_e.trans (congrArg sf (by show Int.toNat _ = _; (first | (clear h_i_undoMany h_i_length h_i_size h_i_p h_i_at h_i_token h_i_number h_i_letterMany h_i_faultAt h_i_isKnown h_i_toldMany h_x_58830; omega) | omega)))
        have gi_v_58865 := congrArg Int32.toInt g_v_58865
        refine lv_if_lt (tgt := 57) hx hb dX12_count_47 (by decide) (fun c_58866 => ?_) (fun c_58866 => ?_)
        · skip
          have kk_0 := tk_0
          have c_58866_i := Int32.lt_iff_toInt_lt.mp c_58866
          have h_58867 : (-1) ≤ (v_58865 : Int32).toInt ∧ (v_58865 : Int32).toInt ≤ (-1) := nr_lt_l h_v_58865 (⟨by decide, by decide⟩ : 0 ≤ (0 : Int32).toInt ∧ (0 : Int32).toInt ≤ 0) c_58866_i (by decide) (by decide)
          refine lv_iconst (v := 0) hx hb dX12_count_57 (by decide) ?_
          refine lv_ior hx hb dX12_count_58 ?_
          refine lv_topi (fun v_58869 v_58869_e => ?_)
          have h_v_58869 : 0 ≤ (v_58869 : Int32).toInt ∧ (v_58869 : Int32).toInt ≤ 4095 := by rw [v_58869_e]; exact (tr_or12 (tr_w h_x_58830 (by decide) (by decide)) (⟨by decide, by decide⟩ : 0 ≤ (0 : Int32).toInt ∧ (0 : Int32).toInt ≤ 4095)).1
          have o_v_58869 : (x_58830 : Int32).toInt ≤ (v_58869 : Int32).toInt := by rw [v_58869_e]; exact (tr_or12 (tr_w h_x_58830 (by decide) (by decide)) (⟨by decide, by decide⟩ : 0 ≤ (0 : Int32).toInt ∧ (0 : Int32).toInt ≤ 4095)).2
          refine lv_istore_n (lv' := [(3, .int v_58869), (2, .int v_58863), (4, .int x_58831), (0, .ref mm), (1, .int p0)]) hx hb dX12_count_59 rfl hl (by decide) rfl (fun ls hl => ?_)
          obtain ⟨v_58870, v_58870_e⟩ : ∃ y : Int32, y = x_58831 + Int32.ofInt 1 := ⟨_, rfl⟩
          have h_v_58870 : 1 ≤ (v_58870 : Int32).toInt ∧ (v_58870 : Int32).toInt ≤ 12 := by rw [v_58870_e]; exact tr_add h_58835 (⟨by decide, by decide⟩ : 1 ≤ (Int32.ofInt 1 : Int32).toInt ∧ (Int32.ofInt 1 : Int32).toInt ≤ 1) (by decide) (by decide) (by decide) (by decide)
          have q_v_58870 : v_58870.toInt = x_58831.toInt + 1 := by rw [v_58870_e]; exact tr_addE h_58835 (⟨by decide, by decide⟩ : 1 ≤ (Int32.ofInt 1 : Int32).toInt ∧ (Int32.ofInt 1 : Int32).toInt ≤ 1) (by decide) (by decide)
          refine lv_iinc (v := v_58870) (lv' := [(4, .int v_58870), (3, .int v_58869), (2, .int v_58863), (0, .ref mm), (1, .int p0)]) hx hb dX12_count_60 hl (k := 2) rfl v_58870_e.symm (by decide) rfl (fun ls hl => ?_)
          refine lv_goto (tgt := 12) hx hb dX12_count_63 (by decide) ?_
          exact ih_58832 v_58863 v_58869 v_58870 H _ ls (by (first | (clear h_i_undoMany h_i_length h_i_size h_i_p h_i_at h_i_token h_i_number h_i_letterMany h_i_faultAt h_i_isKnown h_i_toldMany h_x_58830; omega) | omega)) (tr_w h_v_58869 (by decide) (by decide)) (tr_w h_v_58870 (by decide) (by decide)) (by have z_0 := tk_0; (first | (clear h_i_undoMany h_i_length h_i_size h_i_p h_i_at h_i_token h_i_number h_i_letterMany h_i_faultAt h_i_isKnown h_i_toldMany h_x_58830; omega) | omega)) ⟨⟨wsf_yR hr58832_1.1.1 (by (first | (clear h_i_undoMany h_i_length h_i_size h_i_p h_i_at h_i_token h_i_number h_i_letterMany h_i_faultAt h_i_isKnown h_i_toldMany h_x_58830; omega) | omega)) (by have q8 := gi_v_58862; (first | (clear h_i_undoMany h_i_length h_i_size h_i_p h_i_at h_i_token h_i_number h_i_letterMany h_i_faultAt h_i_isKnown h_i_toldMany h_x_58830; omega) | omega)), (by have q8 := gi_v_58862; (first | (clear h_i_undoMany h_i_length h_i_size h_i_p h_i_at h_i_token h_i_number h_i_letterMany h_i_faultAt h_i_isKnown h_i_toldMany h_x_58830; omega) | omega))⟩, hbF_n hr58832_1.2 (by (first | (clear h_i_undoMany h_i_length h_i_size h_i_p h_i_at h_i_token h_i_number h_i_letterMany h_i_faultAt h_i_isKnown h_i_toldMany h_x_58830; omega) | omega)) (by have q8 := gi_v_58865; have z_0 := tk_0; (first | (clear h_i_undoMany h_i_length h_i_size h_i_p h_i_at h_i_token h_i_number h_i_letterMany h_i_faultAt h_i_isKnown h_i_toldMany h_x_58830; omega) | omega)) (v_58869_e.trans (orz _))⟩ (by (first | (clear h_i_undoMany h_i_length h_i_size h_i_p h_i_at h_i_token h_i_number h_i_letterMany h_i_faultAt h_i_isKnown h_i_toldMany h_x_58830; omega) | omega)) (hP.sub [0, 1] rfl) (hD.sub [0, 1] (by decide) rfl) hS (lv_sub hl [0, 1, 2, 3, 4] rfl)
        · skip
          have kk_0 := tk_0
          have c_58866_i := Int32.le_iff_toInt_le.mp (Int32.not_lt.mp c_58866)
          have h_58868 : 0 ≤ (v_58865 : Int32).toInt ∧ (v_58865 : Int32).toInt ≤ 2 := nr_le_r (⟨by decide, by decide⟩ : 0 ≤ (0 : Int32).toInt ∧ (0 : Int32).toInt ≤ 0) h_v_58865 c_58866_i (by decide) (by decide)
          refine lv_iconst (v := 1) hx hb dX12_count_50 (by decide) ?_
          refine lv_iload hx hb dX12_count_51 (lv_at hl 1 rfl) ?_
          refine lv_ishl hx hb dX12_count_53 ?_
          refine lv_topi (fun v_58871 v_58871_e => ?_)
          have h_v_58871 : 0 ≤ (v_58871 : Int32).toInt ∧ (v_58871 : Int32).toInt ≤ 4095 := by rw [v_58871_e]; exact tr_shl12 (tr_w h_58835 (by decide) (by decide))
          refine lv_goto (tgt := 58) hx hb dX12_count_54 (by decide) ?_
          refine lv_ior hx hb dX12_count_58 ?_
          refine lv_topi (fun v_58872 v_58872_e => ?_)
          have h_v_58872 : 0 ≤ (v_58872 : Int32).toInt ∧ (v_58872 : Int32).toInt ≤ 4095 := by rw [v_58872_e]; exact (tr_or12 (tr_w h_x_58830 (by decide) (by decide)) (tr_w h_v_58871 (by decide) (by decide))).1
          have o_v_58872 : (x_58830 : Int32).toInt ≤ (v_58872 : Int32).toInt := by rw [v_58872_e]; exact (tr_or12 (tr_w h_x_58830 (by decide) (by decide)) (tr_w h_v_58871 (by decide) (by decide))).2
          refine lv_istore_n (lv' := [(3, .int v_58872), (2, .int v_58863), (4, .int x_58831), (0, .ref mm), (1, .int p0)]) hx hb dX12_count_59 rfl hl (by decide) rfl (fun ls hl => ?_)
          obtain ⟨v_58873, v_58873_e⟩ : ∃ y : Int32, y = x_58831 + Int32.ofInt 1 := ⟨_, rfl⟩
          have h_v_58873 : 1 ≤ (v_58873 : Int32).toInt ∧ (v_58873 : Int32).toInt ≤ 12 := by rw [v_58873_e]; exact tr_add h_58835 (⟨by decide, by decide⟩ : 1 ≤ (Int32.ofInt 1 : Int32).toInt ∧ (Int32.ofInt 1 : Int32).toInt ≤ 1) (by decide) (by decide) (by decide) (by decide)
          have q_v_58873 : v_58873.toInt = x_58831.toInt + 1 := by rw [v_58873_e]; exact tr_addE h_58835 (⟨by decide, by decide⟩ : 1 ≤ (Int32.ofInt 1 : Int32).toInt ∧ (Int32.ofInt 1 : Int32).toInt ≤ 1) (by decide) (by decide)
          refine lv_iinc (v := v_58873) (lv' := [(4, .int v_58873), (3, .int v_58872), (2, .int v_58863), (0, .ref mm), (1, .int p0)]) hx hb dX12_count_60 hl (k := 2) rfl v_58873_e.symm (by decide) rfl (fun ls hl => ?_)
          refine lv_goto (tgt := 12) hx hb dX12_count_63 (by decide) ?_
          exact ih_58832 v_58863 v_58872 v_58873 H _ ls (by (first | (clear h_i_undoMany h_i_length h_i_size h_i_p h_i_at h_i_token h_i_number h_i_letterMany h_i_faultAt h_i_isKnown h_i_toldMany h_x_58830 h_v_58871; omega) | omega)) (tr_w h_v_58872 (by decide) (by decide)) (tr_w h_v_58873 (by decide) (by decide)) (by have z_0 := tk_0; (first | (clear h_i_undoMany h_i_length h_i_size h_i_p h_i_at h_i_token h_i_number h_i_letterMany h_i_faultAt h_i_isKnown h_i_toldMany h_x_58830 h_v_58871; omega) | omega)) ⟨⟨wsf_yR hr58832_1.1.1 (by (first | (clear h_i_undoMany h_i_length h_i_size h_i_p h_i_at h_i_token h_i_number h_i_letterMany h_i_faultAt h_i_isKnown h_i_toldMany h_x_58830 h_v_58871; omega) | omega)) (by have q8 := gi_v_58862; (first | (clear h_i_undoMany h_i_length h_i_size h_i_p h_i_at h_i_token h_i_number h_i_letterMany h_i_faultAt h_i_isKnown h_i_toldMany h_x_58830 h_v_58871; omega) | omega)), (by have q8 := gi_v_58862; (first | (clear h_i_undoMany h_i_length h_i_size h_i_p h_i_at h_i_token h_i_number h_i_letterMany h_i_faultAt h_i_isKnown h_i_toldMany h_x_58830 h_v_58871; omega) | omega))⟩, hbF_y hr58832_1.2 (by (first | (clear h_i_undoMany h_i_length h_i_size h_i_p h_i_at h_i_token h_i_number h_i_letterMany h_i_faultAt h_i_isKnown h_i_toldMany h_x_58830 h_v_58871; omega) | omega)) (by have q8 := gi_v_58865; have z_0 := tk_0; (first | (clear h_i_undoMany h_i_length h_i_size h_i_p h_i_at h_i_token h_i_number h_i_letterMany h_i_faultAt h_i_isKnown h_i_toldMany h_x_58830 h_v_58871; omega) | omega)) (bit1_at v_58871_e (by (first | (clear h_i_undoMany h_i_length h_i_size h_i_p h_i_at h_i_token h_i_number h_i_letterMany h_i_faultAt h_i_isKnown h_i_toldMany h_x_58830 h_v_58871; omega) | omega))) v_58872_e⟩ (by (first | (clear h_i_undoMany h_i_length h_i_size h_i_p h_i_at h_i_token h_i_number h_i_letterMany h_i_faultAt h_i_isKnown h_i_toldMany h_x_58830 h_v_58871; omega) | omega)) (hP.sub [0, 1] rfl) (hD.sub [0, 1] (by decide) rfl) hS (lv_sub hl [0, 1, 2, 3, 4] rfl)
  exact lp_58832 13 0 0 0 H _ ls (⟨by decide, by decide⟩ : 0 ≤ (0 : Int32).toInt ∧ (0 : Int32).toInt ≤ 36) (⟨by decide, by decide⟩ : 0 ≤ (0 : Int32).toInt ∧ (0 : Int32).toInt ≤ 4095) (⟨by decide, by decide⟩ : 0 ≤ (0 : Int32).toInt ∧ (0 : Int32).toInt ≤ 12) (by have z_0 := tk_0; (first | (clear h_i_undoMany h_i_length h_i_size h_i_p h_i_at h_i_token h_i_number h_i_letterMany h_i_faultAt h_i_isKnown h_i_toldMany; omega) | omega)) ⟨⟨rfl, by have z_0 := tk_0; (first | (clear h_i_undoMany h_i_length h_i_size h_i_p h_i_at h_i_token h_i_number h_i_letterMany h_i_faultAt h_i_isKnown h_i_toldMany; omega) | omega)⟩, rfl⟩ (by decide) (hP.sub [0, 1] rfl) (hD.sub [0, 1] (by decide) rfl) hS (lv_sub hl [0, 1, 2, 3, 4] rfl)
set_option maxHeartbeats 4000000 in
set_option maxRecDepth 100000 in
theorem c_X12_node (l : Launch) (D : va_G) (g : Nat → ClassId) (sz : Nat) (mm : Nat) (p0 : Int32) (p1 : Int32) (i_thrown : Int32) (m_s : Nat) (m_spare : Nat) (m_kept : Nat) (m_undone : Nat) (m_triedWay : Nat) (m_isKept : Nat) (i_undoMany : Int32) (m_tape : Nat) (i_length : Int32) (i_size : Int32) (i_p : Int32) (i_at : Int32) (i_token : Int32) (i_number : Int32) (i_letterMany : Int32) (i_fault : Int32) (i_faultAt : Int32) (m_letters : Nat) (i_isKnown : Int32) (m_choice : Nat) (m_row : Nat) (m_up : Nat) (m_low : Nat) (m_m : Nat) (m_bestUp : Nat) (m_bestLow : Nat) (m_replyUp : Nat) (m_replyLow : Nat) (m_worthUp : Nat) (m_worthLow : Nat) (m_bestWay : Nat) (i_seed : Int32) (m_told : Nat) (i_toldMany : Int32) (sf : Nat → Int32) (h_i_undoMany : 0 ≤ (i_undoMany : Int32).toInt ∧ (i_undoMany : Int32).toInt ≤ 8) (h_i_length : 0 ≤ (i_length : Int32).toInt ∧ (i_length : Int32).toInt ≤ 440) (h_i_size : 0 ≤ (i_size : Int32).toInt ∧ (i_size : Int32).toInt ≤ 440) (h_i_p : 0 ≤ (i_p : Int32).toInt ∧ (i_p : Int32).toInt ≤ 440) (h_i_at : 0 ≤ (i_at : Int32).toInt ∧ (i_at : Int32).toInt ≤ 440) (h_i_token : 0 ≤ (i_token : Int32).toInt ∧ (i_token : Int32).toInt ≤ 4) (h_i_number : 0 ≤ (i_number : Int32).toInt ∧ (i_number : Int32).toInt ≤ 814) (h_i_letterMany : (-440) ≤ (i_letterMany : Int32).toInt ∧ (i_letterMany : Int32).toInt ≤ 440) (h_i_faultAt : 0 ≤ (i_faultAt : Int32).toInt ∧ (i_faultAt : Int32).toInt ≤ 440) (h_i_isKnown : 0 ≤ (i_isKnown : Int32).toInt ∧ (i_isKnown : Int32).toInt ≤ 1) (h_i_toldMany : 0 ≤ (i_toldMany : Int32).toInt ∧ (i_toldMany : Int32).toInt ≤ 900) (hG : GS sf) : Met l yX12_node (.code yX12_node cX12_node 3 (some .int) :: wsL_law) ({ frames := 2, cells := 0, slots := 0, locals := 43 }) (va_Pc [.ref mm, .int p0, .int p1] (fun U => U.heap.size = sz ∧ va_P D vwCl [(wO12 mm i_thrown m_s m_spare m_kept m_undone m_triedWay m_isKept i_undoMany m_tape i_length i_size i_p i_at i_token i_number i_letterMany i_fault i_faultAt m_letters i_isKnown m_choice m_row m_up m_low m_m m_bestUp m_bestLow m_replyUp m_replyLow m_worthUp m_worthLow m_bestWay i_seed m_told i_toldMany), (wI g m_s 0 193 sf)] U.heap ∧ va_K D vwCl (TY g) U ∧ va_D (fun _ => True) [(wO12 mm i_thrown m_s m_spare m_kept m_undone m_triedWay m_isKept i_undoMany m_tape i_length i_size i_p i_at i_token i_number i_letterMany i_fault i_faultAt m_letters i_isKnown m_choice m_row m_up m_low m_m m_bestUp m_bestLow m_replyUp m_replyLow m_worthUp m_worthLow m_bestWay i_seed m_told i_toldMany), (wI g m_s 0 193 sf)])) (va_Qi (fun (r u : Int32) => u = r ∧ (True)) (fun r t => ∃ o_thrown : Int32, ((((0 ≤ (p0 : Int32).toInt ∧ (p0 : Int32).toInt < (sf 0).toInt) ∧ 0 ≤ (p1 : Int32).toInt ∧ (p1 : Int32).toInt ≤ 3) → (o_thrown : Int32).toInt = 0 ∧ ((p1 : Int32).toInt = 0 → (r : Int32).toInt = (sf (1 + (p0 : Int32).toInt.toNat)).toInt) ∧ ((p1 : Int32).toInt = 1 → ((sf (1 + (p0 : Int32).toInt.toNat)).toInt = 0 → (r : Int32).toInt = (sf (13 + (p0 : Int32).toInt.toNat)).toInt) ∧ (¬ (sf (1 + (p0 : Int32).toInt.toNat)).toInt = 0 → (r : Int32).toInt = -1)) ∧ ((p1 : Int32).toInt = 2 → (r : Int32).toInt = (sf (25 + (p0 : Int32).toInt.toNat)).toInt) ∧ ((p1 : Int32).toInt = 3 → (r : Int32).toInt = (sf (109 + (p0 : Int32).toInt.toNat)).toInt)) ∧ (¬ ((0 ≤ (p0 : Int32).toInt ∧ (p0 : Int32).toInt < (sf 0).toInt) ∧ 0 ≤ (p1 : Int32).toInt ∧ (p1 : Int32).toInt ≤ 3) → (o_thrown : Int32).toInt = 1)) ∧ va_P D vwCl [(wO12 mm o_thrown m_s m_spare m_kept m_undone m_triedWay m_isKept i_undoMany m_tape i_length i_size i_p i_at i_token i_number i_letterMany i_fault i_faultAt m_letters i_isKnown m_choice m_row m_up m_low m_m m_bestUp m_bestLow m_replyUp m_replyLow m_worthUp m_worthLow m_bestWay i_seed m_told i_toldMany), (wI g m_s 0 193 sf)] t.heap ∧ va_D (va_A [(wO12 mm i_thrown m_s m_spare m_kept m_undone m_triedWay m_isKept i_undoMany m_tape i_length i_size i_p i_at i_token i_number i_letterMany i_fault i_faultAt m_letters i_isKnown m_choice m_row m_up m_low m_m m_bestUp m_bestLow m_replyUp m_replyLow m_worthUp m_worthLow m_bestWay i_seed m_told i_toldMany), (wI g m_s 0 193 sf)] sz) [(wO12 mm o_thrown m_s m_spare m_kept m_undone m_triedWay m_isKept i_undoMany m_tape i_length i_size i_p i_at i_token i_number i_letterMany i_fault i_faultAt m_letters i_isKnown m_choice m_row m_up m_low m_m m_bestUp m_bestLow m_replyUp m_replyLow m_worthUp m_worthLow m_bestWay i_seed m_told i_toldMany), (wI g m_s 0 193 sf)]) (va_A [(wO12 mm i_thrown m_s m_spare m_kept m_undone m_triedWay m_isKept i_undoMany m_tape i_length i_size i_p i_at i_token i_number i_letterMany i_fault i_faultAt m_letters i_isKnown m_choice m_row m_up m_low m_m m_bestUp m_bestLow m_replyUp m_replyLow m_worthUp m_worthLow m_bestWay i_seed m_told i_toldMany), (wI g m_s 0 193 sf)] sz)) 0 0 (va_A [(wO12 mm i_thrown m_s m_spare m_kept m_undone m_triedWay m_isKept i_undoMany m_tape i_length i_size i_p i_at i_token i_number i_letterMany i_fault i_faultAt m_letters i_isKnown m_choice m_row m_up m_low m_m m_bestUp m_bestLow m_replyUp m_replyLow m_worthUp m_worthLow m_bestWay i_seed m_told i_toldMany), (wI g m_s 0 193 sf)] sz) := by
  refine Met.ofW (cc := cX12_node) (maxL := 3) (ret := (some .int)) (by decide) rfl ?_
  intro p e s m args below meth c s₁ B hml hv
  obtain ⟨ha, hsz, hP, hK, hD0⟩ := hv
  have hx := B.exec
  have hb := B.bytes
  have hr := B.returns
  have hts0 := atoms_spec (ws := (.code yX12_node cX12_node 3 (some .int) :: wsL_law)) B.pre
  have hts : ∀ w ∈ wsL_law, w.before args s = true := fun w h => hts0 w (List.mem_cons_of_mem _ h)
  have hown : s.vm.findClass RX12 = some m.cls := findClass_of_methodNamed B.named
  have hlocks := B.notSynchronized
  subst hsz
  have hD := hD0.self (sz := s.heap.size)
  generalize hAe : va_A [(wO12 mm i_thrown m_s m_spare m_kept m_undone m_triedWay m_isKept i_undoMany m_tape i_length i_size i_p i_at i_token i_number i_letterMany i_fault i_faultAt m_letters i_isKnown m_choice m_row m_up m_low m_m m_bestUp m_bestLow m_replyUp m_replyLow m_worthUp m_worthLow m_bestWay i_seed m_told i_toldMany), (wI g m_s 0 193 sf)] s.heap.size = A at hD ⊢
  have hA : ∀ q : Nat, s.heap.size ≤ q → A q := fun q h => by rw [← hAe]; exact Or.inr h
  have hS : va_S A s.heap s.heap [] := va_S.rf
  have hP : va_P D vwCl [(wO12 mm i_thrown m_s m_spare m_kept m_undone m_triedWay m_isKept i_undoMany m_tape i_length i_size i_p i_at i_token i_number i_letterMany i_fault i_faultAt m_letters i_isKnown m_choice m_row m_up m_low m_m m_bestUp m_bestLow m_replyUp m_replyLow m_worthUp m_worthLow m_bestWay i_seed m_told i_toldMany), (wI g m_s 0 193 sf)] s.heap := hP
  refine W.eq (g2 := entryFrame m ([.ref mm, .int p0, .int p1] : List Value).toArray 3) (by rw [ha]) ?_
  have hl := lv_entry ([.ref mm, .int p0, .int p1]) (n := 3) (Nat.le_of_ble_eq_true rfl)
  rw [lg_entry_eq]
  generalize (lg_sl ([.ref mm, .int p0, .int p1]) ++ List.replicate (3 - (lg_sl ([.ref mm, .int p0, .int p1])).length) Slot.unset).toArray = ls at hl ⊢
  have hl : lv_has ls 3 [(0, .ref mm), (1, .int p0), (2, .int p1)] := hl
  have gn9 := hG.r.1
  refine lv_aload_n hx hb dX12_node_0 rfl (lv_at hl 0 rfl) ?_
  refine lv_aload_n hx hb dX12_node_1 rfl (lv_at hl 0 rfl) ?_
  refine lv_iload_n hx hb dX12_node_2 rfl (lv_at hl 1 rfl) ?_
  have hPc := hP.sub (ws' := [(wO12 mm i_thrown m_s m_spare m_kept m_undone m_triedWay m_isKept i_undoMany m_tape i_length i_size i_p i_at i_token i_number i_letterMany i_fault i_faultAt m_letters i_isKnown m_choice m_row m_up m_low m_m m_bestUp m_bestLow m_replyUp m_replyLow m_worthUp m_worthLow m_bestWay i_seed m_told i_toldMany), (wI g m_s 0 193 sf)]) [0, 1] rfl
  refine vp_callSi (va_Run.run (va_runV (As := [.int p0]) (rest := [.ref mm]) ⟨hx, hb, hml, hown, hts⟩ (c_X12_isNode l D g mm p0 i_thrown m_s m_spare m_kept m_undone m_triedWay m_isKept i_undoMany m_tape i_length i_size i_p i_at i_token i_number i_letterMany i_fault i_faultAt m_letters i_isKnown m_choice m_row m_up m_low m_m m_bestUp m_bestLow m_replyUp m_replyLow m_worthUp m_worthLow m_bestWay i_seed m_told i_toldMany sf (tr_w h_i_undoMany (by decide) (by decide)) (tr_w h_i_length (by decide) (by decide)) (tr_w h_i_size (by decide) (by decide)) (tr_w h_i_p (by decide) (by decide)) (tr_w h_i_at (by decide) (by decide)) (tr_w h_i_token (by decide) (by decide)) (tr_w h_i_number (by decide) (by decide)) (tr_w h_i_letterMany (by decide) (by decide)) (tr_w h_i_faultAt (by decide) (by decide)) (tr_w h_i_isKnown (by decide) (by decide)) (tr_w h_i_toldMany (by decide) (by decide)) hG) (cwV 1 hts (tz_gV qw_90 qw_91 qw_92 qw_3 qw_93) rfl rfl rfl (by decide +kernel) ⟨Nat.le_of_ble_eq_true rfl, Nat.le_of_ble_eq_true rfl⟩) ⟨tz_blS, va_recv hK hPc (ci := 12) (q0 := 0) rfl rfl, tz_preS hPc hK⟩ rfl rfl hl.1 rfl (lv_room (Nat.le_of_ble_eq_true rfl)) dX12_node_3 ⟨Nat.le_of_ble_eq_true rfl, Nat.le_of_ble_eq_true rfl⟩)) (fun r_58874 hw => ?_)
  have hw_58875 : 0 ≤ (r_58874 : Int32).toInt ∧ (r_58874 : Int32).toInt ≤ 1 := hw.1
  have hw_58875_p0 : Hide (¬ (r_58874 : Int32).toInt = 0 → 0 ≤ (p0 : Int32).toInt ∧ (p0 : Int32).toInt < (sf 0).toInt ∧ (sf 0).toInt ≤ 12) := hw.2.1
  have hw_58875_p1 : Hide ((r_58874 : Int32).toInt = 0 → (p0 : Int32).toInt < 0 ∨ (sf 0).toInt ≤ (p0 : Int32).toInt) := hw.2.2
  refine lv_if_eq (tgt := 18) hx hb dX12_node_6 (by decide) (fun c_58876 => ?_) (fun c_58876 => ?_)
  · skip
    have kk_0 := tk_0
    have c_58876_i : (r_58874 : Int32).toInt = (0 : Int32).toInt := congrArg Int32.toInt c_58876
    have hw_58875_p1_u := (hw_58875_p1).get (c_58876_i.trans tk_0)
    have h_58877 : 0 ≤ (r_58874 : Int32).toInt ∧ (r_58874 : Int32).toInt ≤ 0 := nr_eq_l hw_58875 (⟨by decide, by decide⟩ : 0 ≤ (0 : Int32).toInt ∧ (0 : Int32).toInt ≤ 0) c_58876_i (by decide) (by decide)
    refine lv_iconst (v := 1) hx hb dX12_node_18 (by decide) ?_
    refine lv_goto (tgt := 23) hx hb dX12_node_19 (by decide) ?_
    have hPc := hP.sub (ws' := [(wO12 mm i_thrown m_s m_spare m_kept m_undone m_triedWay m_isKept i_undoMany m_tape i_length i_size i_p i_at i_token i_number i_letterMany i_fault i_faultAt m_letters i_isKnown m_choice m_row m_up m_low m_m m_bestUp m_bestLow m_replyUp m_replyLow m_worthUp m_worthLow m_bestWay i_seed m_told i_toldMany)]) [0] rfl
    have hDc := hD.sub (ws' := [(wO12 mm i_thrown m_s m_spare m_kept m_undone m_triedWay m_isKept i_undoMany m_tape i_length i_size i_p i_at i_token i_number i_letterMany i_fault i_faultAt m_letters i_isKnown m_choice m_row m_up m_low m_m m_bestUp m_bestLow m_replyUp m_replyLow m_worthUp m_worthLow m_bestWay i_seed m_told i_toldMany)]) [0] (by decide) rfl
    have hFc := va_free (wc := [(wO12 mm i_thrown m_s m_spare m_kept m_undone m_triedWay m_isKept i_undoMany m_tape i_length i_size i_p i_at i_token i_number i_letterMany i_fault i_faultAt m_letters i_isKnown m_choice m_row m_up m_low m_m m_bestUp m_bestLow m_replyUp m_replyLow m_worthUp m_worthLow m_bestWay i_seed m_told i_toldMany)]) hD hS hA [0] rfl
    refine va_calli (va_runV (As := [.int 1]) (rest := []) ⟨hx, hb, hml, hown, hts⟩ (c_X12_throwsIf l D g s.heap.size mm 1 i_thrown m_s m_spare m_kept m_undone m_triedWay m_isKept i_undoMany m_tape i_length i_size i_p i_at i_token i_number i_letterMany i_fault i_faultAt m_letters i_isKnown m_choice m_row m_up m_low m_m m_bestUp m_bestLow m_replyUp m_replyLow m_worthUp m_worthLow m_bestWay i_seed m_told i_toldMany (⟨by decide, by decide⟩ : 0 ≤ (1 : Int32).toInt ∧ (1 : Int32).toInt ≤ 1) (tr_w h_i_undoMany (by decide) (by decide)) (tr_w h_i_length (by decide) (by decide)) (tr_w h_i_size (by decide) (by decide)) (tr_w h_i_p (by decide) (by decide)) (tr_w h_i_at (by decide) (by decide)) (tr_w h_i_token (by decide) (by decide)) (tr_w h_i_number (by decide) (by decide)) (tr_w h_i_letterMany (by decide) (by decide)) (tr_w h_i_faultAt (by decide) (by decide)) (tr_w h_i_isKnown (by decide) (by decide)) (tr_w h_i_toldMany (by decide) (by decide))) (cwV 1 hts (tz_gV qw_206 qw_207 qw_208 qw_3 qw_209) rfl rfl rfl (by decide +kernel) ⟨Nat.le_of_ble_eq_true rfl, Nat.le_of_ble_eq_true rfl⟩) ⟨tz_blQ, va_recv hK hPc (ci := 12) (q0 := 0) rfl rfl, tz_preQ hPc hK hDc⟩ rfl rfl hl.1 rfl (lv_room (Nat.le_of_ble_eq_true rfl)) dX12_node_23 ⟨Nat.le_of_ble_eq_true rfl, Nat.le_of_ble_eq_true rfl⟩) hS (fun q _ h => hFc q h) hFc (fun r_58880 u t H1 locs ht hvm hw hB hz1 hk1 hS => ?_)
    obtain ⟨o_thrown_58881, hf_58882, hP1, hD1⟩ := hB
    rw [ht] at hP1
    obtain ⟨hP, hD⟩ := va_join (wr := [(wI g m_s 0 193 sf)]) (w1 := [(wO12 mm o_thrown_58881 m_s m_spare m_kept m_undone m_triedWay m_isKept i_undoMany m_tape i_length i_size i_p i_at i_token i_number i_letterMany i_fault i_faultAt m_letters i_isKnown m_choice m_row m_up m_low m_m m_bestUp m_bestLow m_replyUp m_replyLow m_worthUp m_worthLow m_bestWay i_seed m_told i_toldMany)]) hP hD [0] [1] rfl rfl (by decide) (by decide) hk1 hFc hP1 hD1
    generalize H1 = H at hP hS ⊢
    have hP : va_P D vwCl [(wI g m_s 0 193 sf), (wO12 mm o_thrown_58881 m_s m_spare m_kept m_undone m_triedWay m_isKept i_undoMany m_tape i_length i_size i_p i_at i_token i_number i_letterMany i_fault i_faultAt m_letters i_isKnown m_choice m_row m_up m_low m_m m_bestUp m_bestLow m_replyUp m_replyLow m_worthUp m_worthLow m_bestWay i_seed m_told i_toldMany)] H := hP
    have hD : va_D A [(wI g m_s 0 193 sf), (wO12 mm o_thrown_58881 m_s m_spare m_kept m_undone m_triedWay m_isKept i_undoMany m_tape i_length i_size i_p i_at i_token i_number i_letterMany i_fault i_faultAt m_letters i_isKnown m_choice m_row m_up m_low m_m m_bestUp m_bestLow m_replyUp m_replyLow m_worthUp m_worthLow m_bestWay i_seed m_told i_toldMany)] := hD
    have kk_1 := tk_1
    have hw_58883 : 0 ≤ (r_58880 : Int32).toInt ∧ (r_58880 : Int32).toInt ≤ 1 := hw.1
    have hw_58883_p0 : (r_58880 : Int32).toInt = (1 : Int32).toInt := hw.2
    refine lv_if_eq (tgt := 31) hx hb dX12_node_26 (by decide) (fun c_58884 => ?_) (fun c_58884 => ?_)
    · skip
      have c_58884_i : (r_58880 : Int32).toInt = (0 : Int32).toInt := congrArg Int32.toInt c_58884
      have h_58885 : 0 ≤ (r_58880 : Int32).toInt ∧ (r_58880 : Int32).toInt ≤ 0 := nr_eq_l hw_58883 (⟨by decide, by decide⟩ : 0 ≤ (0 : Int32).toInt ∧ (0 : Int32).toInt ≤ 0) c_58884_i (by decide) (by decide)
      exfalso; have z_0 := tk_0; have z_1 := tk_1; (first | (clear h_i_undoMany h_i_length h_i_size h_i_p h_i_at h_i_token h_i_number h_i_letterMany h_i_faultAt h_i_isKnown h_i_toldMany hw_58875 c_58876_i h_58877 hw_58883 hw_58883_p0 c_58884_i h_58885; omega) | omega)
    · skip
      have c_58884_i : ¬ (r_58880 : Int32).toInt = (0 : Int32).toInt := (fun q => c_58884 (Int32.toInt_inj.mp q))
      have h_58886 : 1 ≤ (r_58880 : Int32).toInt ∧ (r_58880 : Int32).toInt ≤ 1 := nr_ne_l hw_58883 (⟨by decide, by decide⟩ : 0 ≤ (0 : Int32).toInt ∧ (0 : Int32).toInt ≤ 0) c_58884_i (by decide) (by decide)
      refine lv_iconst (v := 0) hx hb dX12_node_29 (by decide) ?_
      have hP9 := hP.sub (ws' := [(wO12 mm o_thrown_58881 m_s m_spare m_kept m_undone m_triedWay m_isKept i_undoMany m_tape i_length i_size i_p i_at i_token i_number i_letterMany i_fault i_faultAt m_letters i_isKnown m_choice m_row m_up m_low m_m m_bestUp m_bestLow m_replyUp m_replyLow m_worthUp m_worthLow m_bestWay i_seed m_told i_toldMany), (wI g m_s 0 193 sf)]) [1, 0] rfl
      have hD9 := hD.sub (ws' := [(wO12 mm o_thrown_58881 m_s m_spare m_kept m_undone m_triedWay m_isKept i_undoMany m_tape i_length i_size i_p i_at i_token i_number i_letterMany i_fault i_faultAt m_letters i_isKnown m_choice m_row m_up m_low m_m m_bestUp m_bestLow m_replyUp m_replyLow m_worthUp m_worthLow m_bestWay i_seed m_told i_toldMany), (wI g m_s 0 193 sf)]) [1, 0] (by decide) rfl
      exact W.iret (v := 0) hx hb hr (fun t ht hW => ⟨⟨0, 0, rfl, ⟨rfl, trivial⟩, o_thrown_58881, (by have z_0 := tk_0; have z_1 := tk_1; have z_2 := tk_2; have z_3 := tk_3; have z_4 := tk_4; have z_5 := tk_5; have z_6 := tk_6; have z_8 := tk_8; have z_9 := tk_9; have z_400 := tk_400; have z_m := tk_m1; (first | (clear h_i_undoMany h_i_length h_i_size h_i_p h_i_at h_i_token h_i_number h_i_letterMany h_i_faultAt h_i_isKnown h_i_toldMany hw_58875 c_58876_i h_58877 hw_58883 hw_58883_p0 c_58884_i h_58886; omega) | omega)), by rw [ht]; exact hP9, hD9⟩, hS.F ht⟩) hS.2.2 dX12_node_30
  · skip
    have kk_0 := tk_0
    have c_58876_i : ¬ (r_58874 : Int32).toInt = (0 : Int32).toInt := (fun q => c_58876 (Int32.toInt_inj.mp q))
    have hw_58875_p0_u := (hw_58875_p0).get (fun q => c_58876_i (q.trans tk_0.symm))
    have h_58878 : 0 ≤ (p0 : Int32).toInt ∧ (p0 : Int32).toInt ≤ 11 := by (first | (clear h_i_undoMany h_i_length h_i_size h_i_p h_i_at h_i_token h_i_number h_i_letterMany h_i_faultAt h_i_isKnown h_i_toldMany hw_58875 c_58876_i; omega) | omega)
    have h_58879 : 1 ≤ (r_58874 : Int32).toInt ∧ (r_58874 : Int32).toInt ≤ 1 := nr_ne_l hw_58875 (⟨by decide, by decide⟩ : 0 ≤ (0 : Int32).toInt ∧ (0 : Int32).toInt ≤ 0) c_58876_i (by decide) (by decide)
    refine lv_iload_n hx hb dX12_node_9 rfl (lv_at hl 2 rfl) ?_
    refine lv_iconst (v := 0) hx hb dX12_node_10 (by decide) ?_
    refine lv_iconst (v := 3) hx hb dX12_node_11 (by decide) ?_
    have hPc := hP.sub (ws' := []) [] rfl
    refine vp_callSi (va_Run.run (va_runS (As := [.int p1, .int 0, .int 3]) (rest := [.ref mm]) ⟨hx, hb, hml, hown, hts⟩ (c_X12_isIn l D g p1 0 3) (va_cwS 3 hts (tz_gS qw_1 qw_2 qw_3 qw_4) rfl rfl rfl (by decide +kernel) ⟨Nat.le_of_ble_eq_true rfl, Nat.le_of_ble_eq_true rfl⟩) ⟨tz_blS, tz_preS hPc hK⟩ rfl rfl hl.1 rfl (lv_room (Nat.le_of_ble_eq_true rfl)) dX12_node_12 ⟨Nat.le_of_ble_eq_true rfl, Nat.le_of_ble_eq_true rfl⟩)) (fun r_58887 hw => ?_)
    have kk_3 := tk_3
    have hw_58888 : 0 ≤ (r_58887 : Int32).toInt ∧ (r_58887 : Int32).toInt ≤ 1 := hw.1
    have hw_58888_p0 : Hide (¬ (r_58887 : Int32).toInt = 0 → (0 : Int32).toInt ≤ (p1 : Int32).toInt ∧ (p1 : Int32).toInt ≤ (3 : Int32).toInt) := hw.2.1
    have hw_58888_p1 : Hide ((r_58887 : Int32).toInt = 0 → (p1 : Int32).toInt < (0 : Int32).toInt ∨ (3 : Int32).toInt < (p1 : Int32).toInt) := hw.2.2
    refine lv_if_ne (tgt := 22) hx hb dX12_node_15 (by decide) (fun c_58889 => ?_) (fun c_58889 => ?_)
    · skip
      have c_58889_i : ¬ (r_58887 : Int32).toInt = (0 : Int32).toInt := (fun q => c_58889 (Int32.toInt_inj.mp q))
      have hw_58888_p0_u := (hw_58888_p0).get (fun q => c_58889_i (q.trans tk_0.symm))
      have h_58890 : 1 ≤ (r_58887 : Int32).toInt ∧ (r_58887 : Int32).toInt ≤ 1 := nr_ne_l hw_58888 (⟨by decide, by decide⟩ : 0 ≤ (0 : Int32).toInt ∧ (0 : Int32).toInt ≤ 0) c_58889_i (by decide) (by decide)
      refine lv_iconst (v := 0) hx hb dX12_node_22 (by decide) ?_
      have hPc := hP.sub (ws' := [(wO12 mm i_thrown m_s m_spare m_kept m_undone m_triedWay m_isKept i_undoMany m_tape i_length i_size i_p i_at i_token i_number i_letterMany i_fault i_faultAt m_letters i_isKnown m_choice m_row m_up m_low m_m m_bestUp m_bestLow m_replyUp m_replyLow m_worthUp m_worthLow m_bestWay i_seed m_told i_toldMany)]) [0] rfl
      have hDc := hD.sub (ws' := [(wO12 mm i_thrown m_s m_spare m_kept m_undone m_triedWay m_isKept i_undoMany m_tape i_length i_size i_p i_at i_token i_number i_letterMany i_fault i_faultAt m_letters i_isKnown m_choice m_row m_up m_low m_m m_bestUp m_bestLow m_replyUp m_replyLow m_worthUp m_worthLow m_bestWay i_seed m_told i_toldMany)]) [0] (by decide) rfl
      have hFc := va_free (wc := [(wO12 mm i_thrown m_s m_spare m_kept m_undone m_triedWay m_isKept i_undoMany m_tape i_length i_size i_p i_at i_token i_number i_letterMany i_fault i_faultAt m_letters i_isKnown m_choice m_row m_up m_low m_m m_bestUp m_bestLow m_replyUp m_replyLow m_worthUp m_worthLow m_bestWay i_seed m_told i_toldMany)]) hD hS hA [0] rfl
      refine va_calli (va_runV (As := [.int 0]) (rest := []) ⟨hx, hb, hml, hown, hts⟩ (c_X12_throwsIf l D g s.heap.size mm 0 i_thrown m_s m_spare m_kept m_undone m_triedWay m_isKept i_undoMany m_tape i_length i_size i_p i_at i_token i_number i_letterMany i_fault i_faultAt m_letters i_isKnown m_choice m_row m_up m_low m_m m_bestUp m_bestLow m_replyUp m_replyLow m_worthUp m_worthLow m_bestWay i_seed m_told i_toldMany (⟨by decide, by decide⟩ : 0 ≤ (0 : Int32).toInt ∧ (0 : Int32).toInt ≤ 1) (tr_w h_i_undoMany (by decide) (by decide)) (tr_w h_i_length (by decide) (by decide)) (tr_w h_i_size (by decide) (by decide)) (tr_w h_i_p (by decide) (by decide)) (tr_w h_i_at (by decide) (by decide)) (tr_w h_i_token (by decide) (by decide)) (tr_w h_i_number (by decide) (by decide)) (tr_w h_i_letterMany (by decide) (by decide)) (tr_w h_i_faultAt (by decide) (by decide)) (tr_w h_i_isKnown (by decide) (by decide)) (tr_w h_i_toldMany (by decide) (by decide))) (cwV 1 hts (tz_gV qw_206 qw_207 qw_208 qw_3 qw_209) rfl rfl rfl (by decide +kernel) ⟨Nat.le_of_ble_eq_true rfl, Nat.le_of_ble_eq_true rfl⟩) ⟨tz_blQ, va_recv hK hPc (ci := 12) (q0 := 0) rfl rfl, tz_preQ hPc hK hDc⟩ rfl rfl hl.1 rfl (lv_room (Nat.le_of_ble_eq_true rfl)) dX12_node_23 ⟨Nat.le_of_ble_eq_true rfl, Nat.le_of_ble_eq_true rfl⟩) hS (fun q _ h => hFc q h) hFc (fun r_58892 u t H1 locs ht hvm hw hB hz1 hk1 hS => ?_)
      obtain ⟨o_thrown_58893, hf_58894, hP1, hD1⟩ := hB
      rw [ht] at hP1
      obtain ⟨hP, hD⟩ := va_join (wr := [(wI g m_s 0 193 sf)]) (w1 := [(wO12 mm o_thrown_58893 m_s m_spare m_kept m_undone m_triedWay m_isKept i_undoMany m_tape i_length i_size i_p i_at i_token i_number i_letterMany i_fault i_faultAt m_letters i_isKnown m_choice m_row m_up m_low m_m m_bestUp m_bestLow m_replyUp m_replyLow m_worthUp m_worthLow m_bestWay i_seed m_told i_toldMany)]) hP hD [0] [1] rfl rfl (by decide) (by decide) hk1 hFc hP1 hD1
      generalize H1 = H at hP hS ⊢
      have hP : va_P D vwCl [(wI g m_s 0 193 sf), (wO12 mm o_thrown_58893 m_s m_spare m_kept m_undone m_triedWay m_isKept i_undoMany m_tape i_length i_size i_p i_at i_token i_number i_letterMany i_fault i_faultAt m_letters i_isKnown m_choice m_row m_up m_low m_m m_bestUp m_bestLow m_replyUp m_replyLow m_worthUp m_worthLow m_bestWay i_seed m_told i_toldMany)] H := hP
      have hD : va_D A [(wI g m_s 0 193 sf), (wO12 mm o_thrown_58893 m_s m_spare m_kept m_undone m_triedWay m_isKept i_undoMany m_tape i_length i_size i_p i_at i_token i_number i_letterMany i_fault i_faultAt m_letters i_isKnown m_choice m_row m_up m_low m_m m_bestUp m_bestLow m_replyUp m_replyLow m_worthUp m_worthLow m_bestWay i_seed m_told i_toldMany)] := hD
      have hw_58895 : 0 ≤ (r_58892 : Int32).toInt ∧ (r_58892 : Int32).toInt ≤ 1 := hw.1
      have hw_58895_p0 : (r_58892 : Int32).toInt = (0 : Int32).toInt := hw.2
      refine lv_if_eq (tgt := 31) hx hb dX12_node_26 (by decide) (fun c_58896 => ?_) (fun c_58896 => ?_)
      · skip
        have c_58896_i : (r_58892 : Int32).toInt = (0 : Int32).toInt := congrArg Int32.toInt c_58896
        have h_58897 : 0 ≤ (r_58892 : Int32).toInt ∧ (r_58892 : Int32).toInt ≤ 0 := nr_eq_l hw_58895 (⟨by decide, by decide⟩ : 0 ≤ (0 : Int32).toInt ∧ (0 : Int32).toInt ≤ 0) c_58896_i (by decide) (by decide)
        refine lv_iload_n hx hb dX12_node_31 rfl (lv_at hl 2 rfl) ?_
        refine lv_if_ne (tgt := 46) hx hb dX12_node_32 (by decide) (fun c_58899 => ?_) (fun c_58899 => ?_)
        · skip
          have c_58899_i : ¬ (p1 : Int32).toInt = (0 : Int32).toInt := (fun q => c_58899 (Int32.toInt_inj.mp q))
          refine lv_iload_n hx hb dX12_node_46 rfl (lv_at hl 2 rfl) ?_
          refine lv_iconst (v := 1) hx hb dX12_node_47 (by decide) ?_
          refine lv_icmp_ne (tgt := 76) hx hb dX12_node_48 (by decide) (fun c_58901 => ?_) (fun c_58901 => ?_)
          · skip
            have kk_1 := tk_1
            have c_58901_i : ¬ (p1 : Int32).toInt = (1 : Int32).toInt := (fun q => c_58901 (Int32.toInt_inj.mp q))
            refine lv_iload_n hx hb dX12_node_76 rfl (lv_at hl 2 rfl) ?_
            refine lv_iconst (v := 2) hx hb dX12_node_77 (by decide) ?_
            refine lv_icmp_ne (tgt := 93) hx hb dX12_node_78 (by decide) (fun c_58903 => ?_) (fun c_58903 => ?_)
            · skip
              have kk_2 := tk_2
              have c_58903_i : ¬ (p1 : Int32).toInt = (2 : Int32).toInt := (fun q => c_58903 (Int32.toInt_inj.mp q))
              refine lv_aload_n hx hb dX12_node_93 rfl (lv_at hl 0 rfl) ?_
              refine va_get (D := D) (ci := 12) (v := .ref m_s) (C := RX12) (T := TX12) (N := 35) hx hb hts inlX12 hown hK hP 1 rfl rfl 1 (by decide) (hts (Cond.fieldLink RX12 13 "ChanceRingsModel" "s" "[I") qw_73) (fun _ h9 => h9) rfl dX12_node_94 ?_
              refine lv_bipush (v := 109) hx hb dX12_node_97 (by decide) ?_
              refine lv_iload_n hx hb dX12_node_99 rfl (lv_at hl 1 rfl) ?_
              refine lv_iadd hx hb dX12_node_100 ?_
              refine lv_topi (fun v_58905 v_58905_e => ?_)
              have h_v_58905 : 109 ≤ (v_58905 : Int32).toInt ∧ (v_58905 : Int32).toInt ≤ 120 := by rw [v_58905_e]; exact tr_add (⟨by decide, by decide⟩ : 109 ≤ (109 : Int32).toInt ∧ (109 : Int32).toInt ≤ 109) h_58878 (by decide) (by decide) (by decide) (by decide)
              have q_v_58905 : v_58905.toInt = 109 + p0.toInt := by rw [v_58905_e]; exact (tr_addX (⟨by decide, by decide⟩ : 109 ≤ (109 : Int32).toInt ∧ (109 : Int32).toInt ≤ 109) h_58878 (by decide) (by decide)).trans (by rw [tk_109])
              refine va_iald hx hb hK hP 0 0 rfl rfl (tr_in h_v_58905 (by decide) (by decide)) dX12_node_101 ?_
              refine lv_topi (fun v_58906 v_58906_e => ?_)
              have h_v_58906 : (-1) ≤ (v_58906 : Int32).toInt ∧ (v_58906 : Int32).toInt ≤ 2 := by rw [v_58906_e]; exact gr_held hG.r (tr_w h_v_58905 (by decide) (by decide))
              have g_v_58906 : v_58906 = sf (109 + p0.toInt.toNat) := v_58906_e.trans (congrArg sf (by show Int.toNat _ = _; (first | (clear h_i_undoMany h_i_length h_i_size h_i_p h_i_at h_i_token h_i_number h_i_letterMany h_i_faultAt h_i_isKnown h_i_toldMany hw_58875 c_58876_i h_58879 hw_58888 c_58889_i h_58890 hw_58895 hw_58895_p0 c_58896_i h_58897 c_58899_i c_58901_i c_58903_i; omega) | omega)))
              have gi_v_58906 := congrArg Int32.toInt g_v_58906
              have hP9 := hP.sub (ws' := [(wO12 mm o_thrown_58893 m_s m_spare m_kept m_undone m_triedWay m_isKept i_undoMany m_tape i_length i_size i_p i_at i_token i_number i_letterMany i_fault i_faultAt m_letters i_isKnown m_choice m_row m_up m_low m_m m_bestUp m_bestLow m_replyUp m_replyLow m_worthUp m_worthLow m_bestWay i_seed m_told i_toldMany), (wI g m_s 0 193 sf)]) [1, 0] rfl
              have hD9 := hD.sub (ws' := [(wO12 mm o_thrown_58893 m_s m_spare m_kept m_undone m_triedWay m_isKept i_undoMany m_tape i_length i_size i_p i_at i_token i_number i_letterMany i_fault i_faultAt m_letters i_isKnown m_choice m_row m_up m_low m_m m_bestUp m_bestLow m_replyUp m_replyLow m_worthUp m_worthLow m_bestWay i_seed m_told i_toldMany), (wI g m_s 0 193 sf)]) [1, 0] (by decide) rfl
              exact W.iret (v := v_58906) hx hb hr (fun t ht hW => ⟨⟨v_58906, v_58906, rfl, ⟨rfl, trivial⟩, o_thrown_58893, (by have z_0 := tk_0; have z_1 := tk_1; have z_2 := tk_2; have z_3 := tk_3; have z_4 := tk_4; have z_5 := tk_5; have z_6 := tk_6; have z_8 := tk_8; have z_9 := tk_9; have z_400 := tk_400; have z_m := tk_m1; (first | (clear h_i_undoMany h_i_length h_i_size h_i_p h_i_at h_i_token h_i_number h_i_letterMany h_i_faultAt h_i_isKnown h_i_toldMany hw_58875 c_58876_i h_58879 hw_58888 c_58889_i h_58890 hw_58895 hw_58895_p0 c_58896_i h_58897 c_58899_i c_58901_i c_58903_i; omega) | omega)), by rw [ht]; exact hP9, hD9⟩, hS.F ht⟩) hS.2.2 dX12_node_102
            · skip
              have kk_2 := tk_2
              have c_58903_i : (p1 : Int32).toInt = (2 : Int32).toInt := congrArg Int32.toInt c_58903
              have h_58904 : 2 ≤ (p1 : Int32).toInt ∧ (p1 : Int32).toInt ≤ 2 := by rw [c_58903]; exact ⟨by decide, by decide⟩
              refine lv_aload_n hx hb dX12_node_81 rfl (lv_at hl 0 rfl) ?_
              refine va_get (D := D) (ci := 12) (v := .ref m_s) (C := RX12) (T := TX12) (N := 35) hx hb hts inlX12 hown hK hP 1 rfl rfl 1 (by decide) (hts (Cond.fieldLink RX12 13 "ChanceRingsModel" "s" "[I") qw_73) (fun _ h9 => h9) rfl dX12_node_82 ?_
              refine lv_bipush (v := 25) hx hb dX12_node_85 (by decide) ?_
              refine lv_iload_n hx hb dX12_node_87 rfl (lv_at hl 1 rfl) ?_
              refine lv_iadd hx hb dX12_node_88 ?_
              refine lv_topi (fun v_58907 v_58907_e => ?_)
              have h_v_58907 : 25 ≤ (v_58907 : Int32).toInt ∧ (v_58907 : Int32).toInt ≤ 36 := by rw [v_58907_e]; exact tr_add (⟨by decide, by decide⟩ : 25 ≤ (25 : Int32).toInt ∧ (25 : Int32).toInt ≤ 25) h_58878 (by decide) (by decide) (by decide) (by decide)
              have q_v_58907 : v_58907.toInt = 25 + p0.toInt := by rw [v_58907_e]; exact (tr_addX (⟨by decide, by decide⟩ : 25 ≤ (25 : Int32).toInt ∧ (25 : Int32).toInt ≤ 25) h_58878 (by decide) (by decide)).trans (by rw [tk_25])
              refine va_iald hx hb hK hP 0 0 rfl rfl (tr_in h_v_58907 (by decide) (by decide)) dX12_node_89 ?_
              refine lv_topi (fun v_58908 v_58908_e => ?_)
              have h_v_58908 : 0 ≤ (v_58908 : Int32).toInt ∧ (v_58908 : Int32).toInt ≤ 3 := by rw [v_58908_e]; exact gr_ways hG.r (tr_w h_v_58907 (by decide) (by decide))
              have g_v_58908 : v_58908 = sf (25 + p0.toInt.toNat) := v_58908_e.trans (congrArg sf (by show Int.toNat _ = _; (first | (clear h_i_undoMany h_i_length h_i_size h_i_p h_i_at h_i_token h_i_number h_i_letterMany h_i_faultAt h_i_isKnown h_i_toldMany hw_58875 c_58876_i h_58879 hw_58888 c_58889_i h_58890 hw_58895 hw_58895_p0 c_58896_i h_58897 c_58899_i c_58901_i c_58903_i h_58904; omega) | omega)))
              have gi_v_58908 := congrArg Int32.toInt g_v_58908
              refine lv_goto (tgt := 102) hx hb dX12_node_90 (by decide) ?_
              have hP9 := hP.sub (ws' := [(wO12 mm o_thrown_58893 m_s m_spare m_kept m_undone m_triedWay m_isKept i_undoMany m_tape i_length i_size i_p i_at i_token i_number i_letterMany i_fault i_faultAt m_letters i_isKnown m_choice m_row m_up m_low m_m m_bestUp m_bestLow m_replyUp m_replyLow m_worthUp m_worthLow m_bestWay i_seed m_told i_toldMany), (wI g m_s 0 193 sf)]) [1, 0] rfl
              have hD9 := hD.sub (ws' := [(wO12 mm o_thrown_58893 m_s m_spare m_kept m_undone m_triedWay m_isKept i_undoMany m_tape i_length i_size i_p i_at i_token i_number i_letterMany i_fault i_faultAt m_letters i_isKnown m_choice m_row m_up m_low m_m m_bestUp m_bestLow m_replyUp m_replyLow m_worthUp m_worthLow m_bestWay i_seed m_told i_toldMany), (wI g m_s 0 193 sf)]) [1, 0] (by decide) rfl
              exact W.iret (v := v_58908) hx hb hr (fun t ht hW => ⟨⟨v_58908, v_58908, rfl, ⟨rfl, trivial⟩, o_thrown_58893, (by have z_0 := tk_0; have z_1 := tk_1; have z_2 := tk_2; have z_3 := tk_3; have z_4 := tk_4; have z_5 := tk_5; have z_6 := tk_6; have z_8 := tk_8; have z_9 := tk_9; have z_400 := tk_400; have z_m := tk_m1; (first | (clear h_i_undoMany h_i_length h_i_size h_i_p h_i_at h_i_token h_i_number h_i_letterMany h_i_faultAt h_i_isKnown h_i_toldMany hw_58875 c_58876_i h_58879 hw_58888 c_58889_i h_58890 hw_58895 hw_58895_p0 c_58896_i h_58897 c_58899_i c_58901_i c_58903_i h_58904; omega) | omega)), by rw [ht]; exact hP9, hD9⟩, hS.F ht⟩) hS.2.2 dX12_node_102
          · skip
            have kk_1 := tk_1
            have c_58901_i : (p1 : Int32).toInt = (1 : Int32).toInt := congrArg Int32.toInt c_58901
            have h_58902 : 1 ≤ (p1 : Int32).toInt ∧ (p1 : Int32).toInt ≤ 1 := by rw [c_58901]; exact ⟨by decide, by decide⟩
            refine lv_aload_n hx hb dX12_node_51 rfl (lv_at hl 0 rfl) ?_
            refine lv_iload_n hx hb dX12_node_52 rfl (lv_at hl 1 rfl) ?_
            refine lv_iconst (v := 0) hx hb dX12_node_53 (by decide) ?_
            have hPc := hP.sub (ws' := [(wO12 mm o_thrown_58893 m_s m_spare m_kept m_undone m_triedWay m_isKept i_undoMany m_tape i_length i_size i_p i_at i_token i_number i_letterMany i_fault i_faultAt m_letters i_isKnown m_choice m_row m_up m_low m_m m_bestUp m_bestLow m_replyUp m_replyLow m_worthUp m_worthLow m_bestWay i_seed m_told i_toldMany), (wI g m_s 0 193 sf)]) [1, 0] rfl
            refine vp_callSi (va_Run.run (va_runV (As := [.int p0, .int 0]) (rest := []) ⟨hx, hb, hml, hown, hts⟩ (c_X12_isKind l D g mm p0 0 o_thrown_58893 m_s m_spare m_kept m_undone m_triedWay m_isKept i_undoMany m_tape i_length i_size i_p i_at i_token i_number i_letterMany i_fault i_faultAt m_letters i_isKnown m_choice m_row m_up m_low m_m m_bestUp m_bestLow m_replyUp m_replyLow m_worthUp m_worthLow m_bestWay i_seed m_told i_toldMany sf (tr_w h_58878 (by decide) (by decide)) (tr_w h_i_undoMany (by decide) (by decide)) (tr_w h_i_length (by decide) (by decide)) (tr_w h_i_size (by decide) (by decide)) (tr_w h_i_p (by decide) (by decide)) (tr_w h_i_at (by decide) (by decide)) (tr_w h_i_token (by decide) (by decide)) (tr_w h_i_number (by decide) (by decide)) (tr_w h_i_letterMany (by decide) (by decide)) (tr_w h_i_faultAt (by decide) (by decide)) (tr_w h_i_isKnown (by decide) (by decide)) (tr_w h_i_toldMany (by decide) (by decide)) hG) (cwV 2 hts (tz_gV qw_94 qw_95 qw_96 qw_3 qw_97) rfl rfl rfl (by decide +kernel) ⟨Nat.le_of_ble_eq_true rfl, Nat.le_of_ble_eq_true rfl⟩) ⟨tz_blS, va_recv hK hPc (ci := 12) (q0 := 0) rfl rfl, tz_preS hPc hK⟩ rfl rfl hl.1 rfl (lv_room (Nat.le_of_ble_eq_true rfl)) dX12_node_54 ⟨Nat.le_of_ble_eq_true rfl, Nat.le_of_ble_eq_true rfl⟩)) (fun r_58909 hw => ?_)
            have hw_58910 : 0 ≤ (r_58909 : Int32).toInt ∧ (r_58909 : Int32).toInt ≤ 1 := hw.1
            have hw_58910_p0 : Hide (¬ (r_58909 : Int32).toInt = 0 → (sf (1 + (p0 : Int32).toInt.toNat)).toInt = (0 : Int32).toInt) := hw.2.1
            have hw_58910_p1 : Hide ((r_58909 : Int32).toInt = 0 → ¬ (sf (1 + (p0 : Int32).toInt.toNat)).toInt = (0 : Int32).toInt) := hw.2.2
            refine lv_if_eq (tgt := 72) hx hb dX12_node_57 (by decide) (fun c_58911 => ?_) (fun c_58911 => ?_)
            · skip
              have c_58911_i : (r_58909 : Int32).toInt = (0 : Int32).toInt := congrArg Int32.toInt c_58911
              have hw_58910_p1_u := (hw_58910_p1).get (c_58911_i.trans tk_0)
              have h_58912 : 0 ≤ (r_58909 : Int32).toInt ∧ (r_58909 : Int32).toInt ≤ 0 := nr_eq_l hw_58910 (⟨by decide, by decide⟩ : 0 ≤ (0 : Int32).toInt ∧ (0 : Int32).toInt ≤ 0) c_58911_i (by decide) (by decide)
              refine lv_iconst (v := (-1)) hx hb dX12_node_72 (by decide) ?_
              refine lv_goto (tgt := 102) hx hb dX12_node_73 (by decide) ?_
              have hP9 := hP.sub (ws' := [(wO12 mm o_thrown_58893 m_s m_spare m_kept m_undone m_triedWay m_isKept i_undoMany m_tape i_length i_size i_p i_at i_token i_number i_letterMany i_fault i_faultAt m_letters i_isKnown m_choice m_row m_up m_low m_m m_bestUp m_bestLow m_replyUp m_replyLow m_worthUp m_worthLow m_bestWay i_seed m_told i_toldMany), (wI g m_s 0 193 sf)]) [1, 0] rfl
              have hD9 := hD.sub (ws' := [(wO12 mm o_thrown_58893 m_s m_spare m_kept m_undone m_triedWay m_isKept i_undoMany m_tape i_length i_size i_p i_at i_token i_number i_letterMany i_fault i_faultAt m_letters i_isKnown m_choice m_row m_up m_low m_m m_bestUp m_bestLow m_replyUp m_replyLow m_worthUp m_worthLow m_bestWay i_seed m_told i_toldMany), (wI g m_s 0 193 sf)]) [1, 0] (by decide) rfl
              exact W.iret (v := (-1)) hx hb hr (fun t ht hW => ⟨⟨(-1), (-1), rfl, ⟨rfl, trivial⟩, o_thrown_58893, (by have z_0 := tk_0; have z_1 := tk_1; have z_2 := tk_2; have z_3 := tk_3; have z_4 := tk_4; have z_5 := tk_5; have z_6 := tk_6; have z_8 := tk_8; have z_9 := tk_9; have z_400 := tk_400; have z_m := tk_m1; (first | (clear h_i_undoMany h_i_length h_i_size h_i_p h_i_at h_i_token h_i_number h_i_letterMany h_i_faultAt h_i_isKnown h_i_toldMany hw_58875 c_58876_i h_58878 h_58879 hw_58888 c_58889_i h_58890 hw_58895 hw_58895_p0 c_58896_i h_58897 c_58899_i c_58901_i h_58902 hw_58910 c_58911_i h_58912; omega) | omega)), by rw [ht]; exact hP9, hD9⟩, hS.F ht⟩) hS.2.2 dX12_node_102
            · skip
              have c_58911_i : ¬ (r_58909 : Int32).toInt = (0 : Int32).toInt := (fun q => c_58911 (Int32.toInt_inj.mp q))
              have hw_58910_p0_u := (hw_58910_p0).get (fun q => c_58911_i (q.trans tk_0.symm))
              have h_58913 : 1 ≤ (r_58909 : Int32).toInt ∧ (r_58909 : Int32).toInt ≤ 1 := nr_ne_l hw_58910 (⟨by decide, by decide⟩ : 0 ≤ (0 : Int32).toInt ∧ (0 : Int32).toInt ≤ 0) c_58911_i (by decide) (by decide)
              refine lv_aload_n hx hb dX12_node_60 rfl (lv_at hl 0 rfl) ?_
              refine va_get (D := D) (ci := 12) (v := .ref m_s) (C := RX12) (T := TX12) (N := 35) hx hb hts inlX12 hown hK hP 1 rfl rfl 1 (by decide) (hts (Cond.fieldLink RX12 13 "ChanceRingsModel" "s" "[I") qw_73) (fun _ h9 => h9) rfl dX12_node_61 ?_
              refine lv_bipush (v := 13) hx hb dX12_node_64 (by decide) ?_
              refine lv_iload_n hx hb dX12_node_66 rfl (lv_at hl 1 rfl) ?_
              refine lv_iadd hx hb dX12_node_67 ?_
              refine lv_topi (fun v_58914 v_58914_e => ?_)
              have h_v_58914 : 13 ≤ (v_58914 : Int32).toInt ∧ (v_58914 : Int32).toInt ≤ 24 := by rw [v_58914_e]; exact tr_add (⟨by decide, by decide⟩ : 13 ≤ (13 : Int32).toInt ∧ (13 : Int32).toInt ≤ 13) h_58878 (by decide) (by decide) (by decide) (by decide)
              have q_v_58914 : v_58914.toInt = 13 + p0.toInt := by rw [v_58914_e]; exact (tr_addX (⟨by decide, by decide⟩ : 13 ≤ (13 : Int32).toInt ∧ (13 : Int32).toInt ≤ 13) h_58878 (by decide) (by decide)).trans (by rw [tk_13])
              refine va_iald hx hb hK hP 0 0 rfl rfl (tr_in h_v_58914 (by decide) (by decide)) dX12_node_68 ?_
              refine lv_topi (fun v_58915 v_58915_e => ?_)
              have h_v_58915 : 0 ≤ (v_58915 : Int32).toInt ∧ (v_58915 : Int32).toInt ≤ 9 := by rw [v_58915_e]; exact gr_pay hG.r (tr_w h_v_58914 (by decide) (by decide))
              have g_v_58915 : v_58915 = sf (13 + p0.toInt.toNat) := v_58915_e.trans (congrArg sf (by show Int.toNat _ = _; (first | (clear h_i_undoMany h_i_length h_i_size h_i_p h_i_at h_i_token h_i_number h_i_letterMany h_i_faultAt h_i_isKnown h_i_toldMany hw_58875 c_58876_i h_58879 hw_58888 c_58889_i h_58890 hw_58895 hw_58895_p0 c_58896_i h_58897 c_58899_i c_58901_i h_58902 hw_58910 c_58911_i h_58913; omega) | omega)))
              have gi_v_58915 := congrArg Int32.toInt g_v_58915
              refine lv_goto (tgt := 102) hx hb dX12_node_69 (by decide) ?_
              have hP9 := hP.sub (ws' := [(wO12 mm o_thrown_58893 m_s m_spare m_kept m_undone m_triedWay m_isKept i_undoMany m_tape i_length i_size i_p i_at i_token i_number i_letterMany i_fault i_faultAt m_letters i_isKnown m_choice m_row m_up m_low m_m m_bestUp m_bestLow m_replyUp m_replyLow m_worthUp m_worthLow m_bestWay i_seed m_told i_toldMany), (wI g m_s 0 193 sf)]) [1, 0] rfl
              have hD9 := hD.sub (ws' := [(wO12 mm o_thrown_58893 m_s m_spare m_kept m_undone m_triedWay m_isKept i_undoMany m_tape i_length i_size i_p i_at i_token i_number i_letterMany i_fault i_faultAt m_letters i_isKnown m_choice m_row m_up m_low m_m m_bestUp m_bestLow m_replyUp m_replyLow m_worthUp m_worthLow m_bestWay i_seed m_told i_toldMany), (wI g m_s 0 193 sf)]) [1, 0] (by decide) rfl
              exact W.iret (v := v_58915) hx hb hr (fun t ht hW => ⟨⟨v_58915, v_58915, rfl, ⟨rfl, trivial⟩, o_thrown_58893, (by have z_0 := tk_0; have z_1 := tk_1; have z_2 := tk_2; have z_3 := tk_3; have z_4 := tk_4; have z_5 := tk_5; have z_6 := tk_6; have z_8 := tk_8; have z_9 := tk_9; have z_400 := tk_400; have z_m := tk_m1; (first | (clear h_i_undoMany h_i_length h_i_size h_i_p h_i_at h_i_token h_i_number h_i_letterMany h_i_faultAt h_i_isKnown h_i_toldMany hw_58875 c_58876_i h_58879 hw_58888 c_58889_i h_58890 hw_58895 hw_58895_p0 c_58896_i h_58897 c_58899_i c_58901_i h_58902 hw_58910 c_58911_i h_58913; omega) | omega)), by rw [ht]; exact hP9, hD9⟩, hS.F ht⟩) hS.2.2 dX12_node_102
        · skip
          have c_58899_i : (p1 : Int32).toInt = (0 : Int32).toInt := congrArg Int32.toInt c_58899
          have h_58900 : 0 ≤ (p1 : Int32).toInt ∧ (p1 : Int32).toInt ≤ 0 := by rw [c_58899]; exact ⟨by decide, by decide⟩
          refine lv_aload_n hx hb dX12_node_35 rfl (lv_at hl 0 rfl) ?_
          refine va_get (D := D) (ci := 12) (v := .ref m_s) (C := RX12) (T := TX12) (N := 35) hx hb hts inlX12 hown hK hP 1 rfl rfl 1 (by decide) (hts (Cond.fieldLink RX12 13 "ChanceRingsModel" "s" "[I") qw_73) (fun _ h9 => h9) rfl dX12_node_36 ?_
          refine lv_iconst (v := 1) hx hb dX12_node_39 (by decide) ?_
          refine lv_iload_n hx hb dX12_node_40 rfl (lv_at hl 1 rfl) ?_
          refine lv_iadd hx hb dX12_node_41 ?_
          refine lv_topi (fun v_58916 v_58916_e => ?_)
          have h_v_58916 : 1 ≤ (v_58916 : Int32).toInt ∧ (v_58916 : Int32).toInt ≤ 12 := by rw [v_58916_e]; exact tr_add (⟨by decide, by decide⟩ : 1 ≤ (1 : Int32).toInt ∧ (1 : Int32).toInt ≤ 1) h_58878 (by decide) (by decide) (by decide) (by decide)
          have q_v_58916 : v_58916.toInt = 1 + p0.toInt := by rw [v_58916_e]; exact (tr_addX (⟨by decide, by decide⟩ : 1 ≤ (1 : Int32).toInt ∧ (1 : Int32).toInt ≤ 1) h_58878 (by decide) (by decide)).trans (by rw [tk_1])
          refine va_iald hx hb hK hP 0 0 rfl rfl (tr_in h_v_58916 (by decide) (by decide)) dX12_node_42 ?_
          refine lv_topi (fun v_58917 v_58917_e => ?_)
          have h_v_58917 : 0 ≤ (v_58917 : Int32).toInt ∧ (v_58917 : Int32).toInt ≤ 3 := by rw [v_58917_e]; exact gr_kind hG.r (tr_w h_v_58916 (by decide) (by decide))
          have g_v_58917 : v_58917 = sf (1 + p0.toInt.toNat) := v_58917_e.trans (congrArg sf (by show Int.toNat _ = _; (first | (clear h_i_undoMany h_i_length h_i_size h_i_p h_i_at h_i_token h_i_number h_i_letterMany h_i_faultAt h_i_isKnown h_i_toldMany hw_58875 c_58876_i h_58879 hw_58888 c_58889_i h_58890 hw_58895 hw_58895_p0 c_58896_i h_58897 c_58899_i h_58900; omega) | omega)))
          have gi_v_58917 := congrArg Int32.toInt g_v_58917
          refine lv_goto (tgt := 102) hx hb dX12_node_43 (by decide) ?_
          have hP9 := hP.sub (ws' := [(wO12 mm o_thrown_58893 m_s m_spare m_kept m_undone m_triedWay m_isKept i_undoMany m_tape i_length i_size i_p i_at i_token i_number i_letterMany i_fault i_faultAt m_letters i_isKnown m_choice m_row m_up m_low m_m m_bestUp m_bestLow m_replyUp m_replyLow m_worthUp m_worthLow m_bestWay i_seed m_told i_toldMany), (wI g m_s 0 193 sf)]) [1, 0] rfl
          have hD9 := hD.sub (ws' := [(wO12 mm o_thrown_58893 m_s m_spare m_kept m_undone m_triedWay m_isKept i_undoMany m_tape i_length i_size i_p i_at i_token i_number i_letterMany i_fault i_faultAt m_letters i_isKnown m_choice m_row m_up m_low m_m m_bestUp m_bestLow m_replyUp m_replyLow m_worthUp m_worthLow m_bestWay i_seed m_told i_toldMany), (wI g m_s 0 193 sf)]) [1, 0] (by decide) rfl
          exact W.iret (v := v_58917) hx hb hr (fun t ht hW => ⟨⟨v_58917, v_58917, rfl, ⟨rfl, trivial⟩, o_thrown_58893, (by have z_0 := tk_0; have z_1 := tk_1; have z_2 := tk_2; have z_3 := tk_3; have z_4 := tk_4; have z_5 := tk_5; have z_6 := tk_6; have z_8 := tk_8; have z_9 := tk_9; have z_400 := tk_400; have z_m := tk_m1; (first | (clear h_i_undoMany h_i_length h_i_size h_i_p h_i_at h_i_token h_i_number h_i_letterMany h_i_faultAt h_i_isKnown h_i_toldMany hw_58875 c_58876_i h_58879 hw_58888 c_58889_i h_58890 hw_58895 hw_58895_p0 c_58896_i h_58897 c_58899_i h_58900; omega) | omega)), by rw [ht]; exact hP9, hD9⟩, hS.F ht⟩) hS.2.2 dX12_node_102
      · skip
        have c_58896_i : ¬ (r_58892 : Int32).toInt = (0 : Int32).toInt := (fun q => c_58896 (Int32.toInt_inj.mp q))
        have h_58898 : 1 ≤ (r_58892 : Int32).toInt ∧ (r_58892 : Int32).toInt ≤ 1 := nr_ne_l hw_58895 (⟨by decide, by decide⟩ : 0 ≤ (0 : Int32).toInt ∧ (0 : Int32).toInt ≤ 0) c_58896_i (by decide) (by decide)
        exfalso; have z_0 := tk_0; have z_1 := tk_1; (first | (clear h_i_undoMany h_i_length h_i_size h_i_p h_i_at h_i_token h_i_number h_i_letterMany h_i_faultAt h_i_isKnown h_i_toldMany hw_58875 c_58876_i h_58878 h_58879 hw_58888 c_58889_i h_58890 hw_58895 hw_58895_p0 c_58896_i h_58898; omega) | omega)
    · skip
      have c_58889_i : (r_58887 : Int32).toInt = (0 : Int32).toInt := congrArg Int32.toInt c_58889
      have hw_58888_p1_u := (hw_58888_p1).get (c_58889_i.trans tk_0)
      have h_58891 : 0 ≤ (r_58887 : Int32).toInt ∧ (r_58887 : Int32).toInt ≤ 0 := nr_eq_l hw_58888 (⟨by decide, by decide⟩ : 0 ≤ (0 : Int32).toInt ∧ (0 : Int32).toInt ≤ 0) c_58889_i (by decide) (by decide)
      refine lv_iconst (v := 1) hx hb dX12_node_18 (by decide) ?_
      refine lv_goto (tgt := 23) hx hb dX12_node_19 (by decide) ?_
      have hPc := hP.sub (ws' := [(wO12 mm i_thrown m_s m_spare m_kept m_undone m_triedWay m_isKept i_undoMany m_tape i_length i_size i_p i_at i_token i_number i_letterMany i_fault i_faultAt m_letters i_isKnown m_choice m_row m_up m_low m_m m_bestUp m_bestLow m_replyUp m_replyLow m_worthUp m_worthLow m_bestWay i_seed m_told i_toldMany)]) [0] rfl
      have hDc := hD.sub (ws' := [(wO12 mm i_thrown m_s m_spare m_kept m_undone m_triedWay m_isKept i_undoMany m_tape i_length i_size i_p i_at i_token i_number i_letterMany i_fault i_faultAt m_letters i_isKnown m_choice m_row m_up m_low m_m m_bestUp m_bestLow m_replyUp m_replyLow m_worthUp m_worthLow m_bestWay i_seed m_told i_toldMany)]) [0] (by decide) rfl
      have hFc := va_free (wc := [(wO12 mm i_thrown m_s m_spare m_kept m_undone m_triedWay m_isKept i_undoMany m_tape i_length i_size i_p i_at i_token i_number i_letterMany i_fault i_faultAt m_letters i_isKnown m_choice m_row m_up m_low m_m m_bestUp m_bestLow m_replyUp m_replyLow m_worthUp m_worthLow m_bestWay i_seed m_told i_toldMany)]) hD hS hA [0] rfl
      refine va_calli (va_runV (As := [.int 1]) (rest := []) ⟨hx, hb, hml, hown, hts⟩ (c_X12_throwsIf l D g s.heap.size mm 1 i_thrown m_s m_spare m_kept m_undone m_triedWay m_isKept i_undoMany m_tape i_length i_size i_p i_at i_token i_number i_letterMany i_fault i_faultAt m_letters i_isKnown m_choice m_row m_up m_low m_m m_bestUp m_bestLow m_replyUp m_replyLow m_worthUp m_worthLow m_bestWay i_seed m_told i_toldMany (⟨by decide, by decide⟩ : 0 ≤ (1 : Int32).toInt ∧ (1 : Int32).toInt ≤ 1) (tr_w h_i_undoMany (by decide) (by decide)) (tr_w h_i_length (by decide) (by decide)) (tr_w h_i_size (by decide) (by decide)) (tr_w h_i_p (by decide) (by decide)) (tr_w h_i_at (by decide) (by decide)) (tr_w h_i_token (by decide) (by decide)) (tr_w h_i_number (by decide) (by decide)) (tr_w h_i_letterMany (by decide) (by decide)) (tr_w h_i_faultAt (by decide) (by decide)) (tr_w h_i_isKnown (by decide) (by decide)) (tr_w h_i_toldMany (by decide) (by decide))) (cwV 1 hts (tz_gV qw_206 qw_207 qw_208 qw_3 qw_209) rfl rfl rfl (by decide +kernel) ⟨Nat.le_of_ble_eq_true rfl, Nat.le_of_ble_eq_true rfl⟩) ⟨tz_blQ, va_recv hK hPc (ci := 12) (q0 := 0) rfl rfl, tz_preQ hPc hK hDc⟩ rfl rfl hl.1 rfl (lv_room (Nat.le_of_ble_eq_true rfl)) dX12_node_23 ⟨Nat.le_of_ble_eq_true rfl, Nat.le_of_ble_eq_true rfl⟩) hS (fun q _ h => hFc q h) hFc (fun r_58918 u t H1 locs ht hvm hw hB hz1 hk1 hS => ?_)
      obtain ⟨o_thrown_58919, hf_58920, hP1, hD1⟩ := hB
      rw [ht] at hP1
      obtain ⟨hP, hD⟩ := va_join (wr := [(wI g m_s 0 193 sf)]) (w1 := [(wO12 mm o_thrown_58919 m_s m_spare m_kept m_undone m_triedWay m_isKept i_undoMany m_tape i_length i_size i_p i_at i_token i_number i_letterMany i_fault i_faultAt m_letters i_isKnown m_choice m_row m_up m_low m_m m_bestUp m_bestLow m_replyUp m_replyLow m_worthUp m_worthLow m_bestWay i_seed m_told i_toldMany)]) hP hD [0] [1] rfl rfl (by decide) (by decide) hk1 hFc hP1 hD1
      generalize H1 = H at hP hS ⊢
      have hP : va_P D vwCl [(wI g m_s 0 193 sf), (wO12 mm o_thrown_58919 m_s m_spare m_kept m_undone m_triedWay m_isKept i_undoMany m_tape i_length i_size i_p i_at i_token i_number i_letterMany i_fault i_faultAt m_letters i_isKnown m_choice m_row m_up m_low m_m m_bestUp m_bestLow m_replyUp m_replyLow m_worthUp m_worthLow m_bestWay i_seed m_told i_toldMany)] H := hP
      have hD : va_D A [(wI g m_s 0 193 sf), (wO12 mm o_thrown_58919 m_s m_spare m_kept m_undone m_triedWay m_isKept i_undoMany m_tape i_length i_size i_p i_at i_token i_number i_letterMany i_fault i_faultAt m_letters i_isKnown m_choice m_row m_up m_low m_m m_bestUp m_bestLow m_replyUp m_replyLow m_worthUp m_worthLow m_bestWay i_seed m_told i_toldMany)] := hD
      have kk_1 := tk_1
      have hw_58921 : 0 ≤ (r_58918 : Int32).toInt ∧ (r_58918 : Int32).toInt ≤ 1 := hw.1
      have hw_58921_p0 : (r_58918 : Int32).toInt = (1 : Int32).toInt := hw.2
      refine lv_if_eq (tgt := 31) hx hb dX12_node_26 (by decide) (fun c_58922 => ?_) (fun c_58922 => ?_)
      · skip
        have c_58922_i : (r_58918 : Int32).toInt = (0 : Int32).toInt := congrArg Int32.toInt c_58922
        have h_58923 : 0 ≤ (r_58918 : Int32).toInt ∧ (r_58918 : Int32).toInt ≤ 0 := nr_eq_l hw_58921 (⟨by decide, by decide⟩ : 0 ≤ (0 : Int32).toInt ∧ (0 : Int32).toInt ≤ 0) c_58922_i (by decide) (by decide)
        exfalso; have z_0 := tk_0; have z_1 := tk_1; (first | (clear h_i_undoMany h_i_length h_i_size h_i_p h_i_at h_i_token h_i_number h_i_letterMany h_i_faultAt h_i_isKnown h_i_toldMany hw_58875 c_58876_i h_58878 h_58879 hw_58888 c_58889_i h_58891 hw_58921 hw_58921_p0 c_58922_i h_58923; omega) | omega)
      · skip
        have c_58922_i : ¬ (r_58918 : Int32).toInt = (0 : Int32).toInt := (fun q => c_58922 (Int32.toInt_inj.mp q))
        have h_58924 : 1 ≤ (r_58918 : Int32).toInt ∧ (r_58918 : Int32).toInt ≤ 1 := nr_ne_l hw_58921 (⟨by decide, by decide⟩ : 0 ≤ (0 : Int32).toInt ∧ (0 : Int32).toInt ≤ 0) c_58922_i (by decide) (by decide)
        refine lv_iconst (v := 0) hx hb dX12_node_29 (by decide) ?_
        have hP9 := hP.sub (ws' := [(wO12 mm o_thrown_58919 m_s m_spare m_kept m_undone m_triedWay m_isKept i_undoMany m_tape i_length i_size i_p i_at i_token i_number i_letterMany i_fault i_faultAt m_letters i_isKnown m_choice m_row m_up m_low m_m m_bestUp m_bestLow m_replyUp m_replyLow m_worthUp m_worthLow m_bestWay i_seed m_told i_toldMany), (wI g m_s 0 193 sf)]) [1, 0] rfl
        have hD9 := hD.sub (ws' := [(wO12 mm o_thrown_58919 m_s m_spare m_kept m_undone m_triedWay m_isKept i_undoMany m_tape i_length i_size i_p i_at i_token i_number i_letterMany i_fault i_faultAt m_letters i_isKnown m_choice m_row m_up m_low m_m m_bestUp m_bestLow m_replyUp m_replyLow m_worthUp m_worthLow m_bestWay i_seed m_told i_toldMany), (wI g m_s 0 193 sf)]) [1, 0] (by decide) rfl
        exact W.iret (v := 0) hx hb hr (fun t ht hW => ⟨⟨0, 0, rfl, ⟨rfl, trivial⟩, o_thrown_58919, (by have z_0 := tk_0; have z_1 := tk_1; have z_2 := tk_2; have z_3 := tk_3; have z_4 := tk_4; have z_5 := tk_5; have z_6 := tk_6; have z_8 := tk_8; have z_9 := tk_9; have z_400 := tk_400; have z_m := tk_m1; (first | (clear h_i_undoMany h_i_length h_i_size h_i_p h_i_at h_i_token h_i_number h_i_letterMany h_i_faultAt h_i_isKnown h_i_toldMany hw_58875 c_58876_i h_58878 h_58879 hw_58888 c_58889_i h_58891 hw_58921 hw_58921_p0 c_58922_i h_58924; omega) | omega)), by rw [ht]; exact hP9, hD9⟩, hS.F ht⟩) hS.2.2 dX12_node_30
set_option maxHeartbeats 4000000 in
set_option maxRecDepth 100000 in
theorem c_X12_way (l : Launch) (D : va_G) (g : Nat → ClassId) (sz : Nat) (mm : Nat) (p0 : Int32) (p1 : Int32) (p2 : Int32) (i_thrown : Int32) (m_s : Nat) (m_spare : Nat) (m_kept : Nat) (m_undone : Nat) (m_triedWay : Nat) (m_isKept : Nat) (i_undoMany : Int32) (m_tape : Nat) (i_length : Int32) (i_size : Int32) (i_p : Int32) (i_at : Int32) (i_token : Int32) (i_number : Int32) (i_letterMany : Int32) (i_fault : Int32) (i_faultAt : Int32) (m_letters : Nat) (i_isKnown : Int32) (m_choice : Nat) (m_row : Nat) (m_up : Nat) (m_low : Nat) (m_m : Nat) (m_bestUp : Nat) (m_bestLow : Nat) (m_replyUp : Nat) (m_replyLow : Nat) (m_worthUp : Nat) (m_worthLow : Nat) (m_bestWay : Nat) (i_seed : Int32) (m_told : Nat) (i_toldMany : Int32) (sf : Nat → Int32) (h_i_undoMany : 0 ≤ (i_undoMany : Int32).toInt ∧ (i_undoMany : Int32).toInt ≤ 8) (h_i_length : 0 ≤ (i_length : Int32).toInt ∧ (i_length : Int32).toInt ≤ 440) (h_i_size : 0 ≤ (i_size : Int32).toInt ∧ (i_size : Int32).toInt ≤ 440) (h_i_p : 0 ≤ (i_p : Int32).toInt ∧ (i_p : Int32).toInt ≤ 440) (h_i_at : 0 ≤ (i_at : Int32).toInt ∧ (i_at : Int32).toInt ≤ 440) (h_i_token : 0 ≤ (i_token : Int32).toInt ∧ (i_token : Int32).toInt ≤ 4) (h_i_number : 0 ≤ (i_number : Int32).toInt ∧ (i_number : Int32).toInt ≤ 814) (h_i_letterMany : (-440) ≤ (i_letterMany : Int32).toInt ∧ (i_letterMany : Int32).toInt ≤ 440) (h_i_faultAt : 0 ≤ (i_faultAt : Int32).toInt ∧ (i_faultAt : Int32).toInt ≤ 440) (h_i_isKnown : 0 ≤ (i_isKnown : Int32).toInt ∧ (i_isKnown : Int32).toInt ≤ 1) (h_i_toldMany : 0 ≤ (i_toldMany : Int32).toInt ∧ (i_toldMany : Int32).toInt ≤ 900) (hG : GS sf) : Met l yX12_way (.code yX12_way cX12_way 4 (some .int) :: wsL_law) ({ frames := 3, cells := 0, slots := 0, locals := 65 }) (va_Pc [.ref mm, .int p0, .int p1, .int p2] (fun U => U.heap.size = sz ∧ va_P D vwCl [(wO12 mm i_thrown m_s m_spare m_kept m_undone m_triedWay m_isKept i_undoMany m_tape i_length i_size i_p i_at i_token i_number i_letterMany i_fault i_faultAt m_letters i_isKnown m_choice m_row m_up m_low m_m m_bestUp m_bestLow m_replyUp m_replyLow m_worthUp m_worthLow m_bestWay i_seed m_told i_toldMany), (wI g m_s 0 193 sf)] U.heap ∧ va_K D vwCl (TY g) U ∧ va_D (fun _ => True) [(wO12 mm i_thrown m_s m_spare m_kept m_undone m_triedWay m_isKept i_undoMany m_tape i_length i_size i_p i_at i_token i_number i_letterMany i_fault i_faultAt m_letters i_isKnown m_choice m_row m_up m_low m_m m_bestUp m_bestLow m_replyUp m_replyLow m_worthUp m_worthLow m_bestWay i_seed m_told i_toldMany), (wI g m_s 0 193 sf)])) (va_Qi (fun (r u : Int32) => u = r ∧ (True)) (fun r t => ∃ o_thrown : Int32, (((((0 ≤ (p0 : Int32).toInt ∧ (p0 : Int32).toInt < (sf 0).toInt) ∧ 0 ≤ (p1 : Int32).toInt ∧ (p1 : Int32).toInt < (sf (25 + (p0 : Int32).toInt.toNat)).toInt) ∧ 0 ≤ (p2 : Int32).toInt ∧ (p2 : Int32).toInt ≤ 1) → (o_thrown : Int32).toInt = 0 ∧ ((p2 : Int32).toInt = 0 → (r : Int32).toInt = (sf (37 + 3 * (p0 : Int32).toInt.toNat + (p1 : Int32).toInt.toNat)).toInt) ∧ ((p2 : Int32).toInt = 1 → (r : Int32).toInt = (sf (73 + 3 * (p0 : Int32).toInt.toNat + (p1 : Int32).toInt.toNat)).toInt)) ∧ (¬ (((0 ≤ (p0 : Int32).toInt ∧ (p0 : Int32).toInt < (sf 0).toInt) ∧ 0 ≤ (p1 : Int32).toInt ∧ (p1 : Int32).toInt < (sf (25 + (p0 : Int32).toInt.toNat)).toInt) ∧ 0 ≤ (p2 : Int32).toInt ∧ (p2 : Int32).toInt ≤ 1) → (o_thrown : Int32).toInt = 1)) ∧ va_P D vwCl [(wO12 mm o_thrown m_s m_spare m_kept m_undone m_triedWay m_isKept i_undoMany m_tape i_length i_size i_p i_at i_token i_number i_letterMany i_fault i_faultAt m_letters i_isKnown m_choice m_row m_up m_low m_m m_bestUp m_bestLow m_replyUp m_replyLow m_worthUp m_worthLow m_bestWay i_seed m_told i_toldMany), (wI g m_s 0 193 sf)] t.heap ∧ va_D (va_A [(wO12 mm i_thrown m_s m_spare m_kept m_undone m_triedWay m_isKept i_undoMany m_tape i_length i_size i_p i_at i_token i_number i_letterMany i_fault i_faultAt m_letters i_isKnown m_choice m_row m_up m_low m_m m_bestUp m_bestLow m_replyUp m_replyLow m_worthUp m_worthLow m_bestWay i_seed m_told i_toldMany), (wI g m_s 0 193 sf)] sz) [(wO12 mm o_thrown m_s m_spare m_kept m_undone m_triedWay m_isKept i_undoMany m_tape i_length i_size i_p i_at i_token i_number i_letterMany i_fault i_faultAt m_letters i_isKnown m_choice m_row m_up m_low m_m m_bestUp m_bestLow m_replyUp m_replyLow m_worthUp m_worthLow m_bestWay i_seed m_told i_toldMany), (wI g m_s 0 193 sf)]) (va_A [(wO12 mm i_thrown m_s m_spare m_kept m_undone m_triedWay m_isKept i_undoMany m_tape i_length i_size i_p i_at i_token i_number i_letterMany i_fault i_faultAt m_letters i_isKnown m_choice m_row m_up m_low m_m m_bestUp m_bestLow m_replyUp m_replyLow m_worthUp m_worthLow m_bestWay i_seed m_told i_toldMany), (wI g m_s 0 193 sf)] sz)) 0 0 (va_A [(wO12 mm i_thrown m_s m_spare m_kept m_undone m_triedWay m_isKept i_undoMany m_tape i_length i_size i_p i_at i_token i_number i_letterMany i_fault i_faultAt m_letters i_isKnown m_choice m_row m_up m_low m_m m_bestUp m_bestLow m_replyUp m_replyLow m_worthUp m_worthLow m_bestWay i_seed m_told i_toldMany), (wI g m_s 0 193 sf)] sz) := by
  refine Met.ofW (cc := cX12_way) (maxL := 4) (ret := (some .int)) (by decide) rfl ?_
  intro p e s m args below meth c s₁ B hml hv
  obtain ⟨ha, hsz, hP, hK, hD0⟩ := hv
  have hx := B.exec
  have hb := B.bytes
  have hr := B.returns
  have hts0 := atoms_spec (ws := (.code yX12_way cX12_way 4 (some .int) :: wsL_law)) B.pre
  have hts : ∀ w ∈ wsL_law, w.before args s = true := fun w h => hts0 w (List.mem_cons_of_mem _ h)
  have hown : s.vm.findClass RX12 = some m.cls := findClass_of_methodNamed B.named
  have hlocks := B.notSynchronized
  subst hsz
  have hD := hD0.self (sz := s.heap.size)
  generalize hAe : va_A [(wO12 mm i_thrown m_s m_spare m_kept m_undone m_triedWay m_isKept i_undoMany m_tape i_length i_size i_p i_at i_token i_number i_letterMany i_fault i_faultAt m_letters i_isKnown m_choice m_row m_up m_low m_m m_bestUp m_bestLow m_replyUp m_replyLow m_worthUp m_worthLow m_bestWay i_seed m_told i_toldMany), (wI g m_s 0 193 sf)] s.heap.size = A at hD ⊢
  have hA : ∀ q : Nat, s.heap.size ≤ q → A q := fun q h => by rw [← hAe]; exact Or.inr h
  have hS : va_S A s.heap s.heap [] := va_S.rf
  have hP : va_P D vwCl [(wO12 mm i_thrown m_s m_spare m_kept m_undone m_triedWay m_isKept i_undoMany m_tape i_length i_size i_p i_at i_token i_number i_letterMany i_fault i_faultAt m_letters i_isKnown m_choice m_row m_up m_low m_m m_bestUp m_bestLow m_replyUp m_replyLow m_worthUp m_worthLow m_bestWay i_seed m_told i_toldMany), (wI g m_s 0 193 sf)] s.heap := hP
  refine W.eq (g2 := entryFrame m ([.ref mm, .int p0, .int p1, .int p2] : List Value).toArray 4) (by rw [ha]) ?_
  have hl := lv_entry ([.ref mm, .int p0, .int p1, .int p2]) (n := 4) (Nat.le_of_ble_eq_true rfl)
  rw [lg_entry_eq]
  generalize (lg_sl ([.ref mm, .int p0, .int p1, .int p2]) ++ List.replicate (4 - (lg_sl ([.ref mm, .int p0, .int p1, .int p2])).length) Slot.unset).toArray = ls at hl ⊢
  have hl : lv_has ls 4 [(0, .ref mm), (1, .int p0), (2, .int p1), (3, .int p2)] := hl
  have gn9 := hG.r.1
  refine lv_aload_n hx hb dX12_way_0 rfl (lv_at hl 0 rfl) ?_
  refine lv_aload_n hx hb dX12_way_1 rfl (lv_at hl 0 rfl) ?_
  refine lv_iload_n hx hb dX12_way_2 rfl (lv_at hl 1 rfl) ?_
  refine lv_iload_n hx hb dX12_way_3 rfl (lv_at hl 2 rfl) ?_
  have hPc := hP.sub (ws' := [(wO12 mm i_thrown m_s m_spare m_kept m_undone m_triedWay m_isKept i_undoMany m_tape i_length i_size i_p i_at i_token i_number i_letterMany i_fault i_faultAt m_letters i_isKnown m_choice m_row m_up m_low m_m m_bestUp m_bestLow m_replyUp m_replyLow m_worthUp m_worthLow m_bestWay i_seed m_told i_toldMany), (wI g m_s 0 193 sf)]) [0, 1] rfl
  refine vp_callSi (va_Run.run (va_runV (As := [.int p0, .int p1]) (rest := [.ref mm]) ⟨hx, hb, hml, hown, hts⟩ (c_X12_isWay l D g mm p0 p1 i_thrown m_s m_spare m_kept m_undone m_triedWay m_isKept i_undoMany m_tape i_length i_size i_p i_at i_token i_number i_letterMany i_fault i_faultAt m_letters i_isKnown m_choice m_row m_up m_low m_m m_bestUp m_bestLow m_replyUp m_replyLow m_worthUp m_worthLow m_bestWay i_seed m_told i_toldMany sf (tr_w h_i_undoMany (by decide) (by decide)) (tr_w h_i_length (by decide) (by decide)) (tr_w h_i_size (by decide) (by decide)) (tr_w h_i_p (by decide) (by decide)) (tr_w h_i_at (by decide) (by decide)) (tr_w h_i_token (by decide) (by decide)) (tr_w h_i_number (by decide) (by decide)) (tr_w h_i_letterMany (by decide) (by decide)) (tr_w h_i_faultAt (by decide) (by decide)) (tr_w h_i_isKnown (by decide) (by decide)) (tr_w h_i_toldMany (by decide) (by decide)) hG) (cwV 2 hts (tz_gV qw_107 qw_108 qw_109 qw_3 qw_110) rfl rfl rfl (by decide +kernel) ⟨Nat.le_of_ble_eq_true rfl, Nat.le_of_ble_eq_true rfl⟩) ⟨tz_blS, va_recv hK hPc (ci := 12) (q0 := 0) rfl rfl, tz_preS hPc hK⟩ rfl rfl hl.1 rfl (lv_room (Nat.le_of_ble_eq_true rfl)) dX12_way_4 ⟨Nat.le_of_ble_eq_true rfl, Nat.le_of_ble_eq_true rfl⟩)) (fun r_58925 hw => ?_)
  have hw_58926 : 0 ≤ (r_58925 : Int32).toInt ∧ (r_58925 : Int32).toInt ≤ 1 := hw.1
  have hw_58926_p0 : Hide (¬ (r_58925 : Int32).toInt = 0 → (0 ≤ (p0 : Int32).toInt ∧ (p0 : Int32).toInt < (sf 0).toInt ∧ (sf 0).toInt ≤ 12) ∧ 0 ≤ (p1 : Int32).toInt ∧ (p1 : Int32).toInt < (sf (25 + (p0 : Int32).toInt.toNat)).toInt ∧ (sf (25 + (p0 : Int32).toInt.toNat)).toInt ≤ 3) := hw.2.1
  have hw_58926_p1 : Hide ((r_58925 : Int32).toInt = 0 → ¬ ((0 ≤ (p0 : Int32).toInt ∧ (p0 : Int32).toInt < (sf 0).toInt) ∧ 0 ≤ (p1 : Int32).toInt ∧ (p1 : Int32).toInt < (sf (25 + (p0 : Int32).toInt.toNat)).toInt)) := hw.2.2
  refine lv_if_eq (tgt := 19) hx hb dX12_way_7 (by decide) (fun c_58927 => ?_) (fun c_58927 => ?_)
  · skip
    have kk_0 := tk_0
    have c_58927_i : (r_58925 : Int32).toInt = (0 : Int32).toInt := congrArg Int32.toInt c_58927
    have hw_58926_p1_u := (hw_58926_p1).get (c_58927_i.trans tk_0)
    have h_58928 : 0 ≤ (r_58925 : Int32).toInt ∧ (r_58925 : Int32).toInt ≤ 0 := nr_eq_l hw_58926 (⟨by decide, by decide⟩ : 0 ≤ (0 : Int32).toInt ∧ (0 : Int32).toInt ≤ 0) c_58927_i (by decide) (by decide)
    refine lv_iconst (v := 1) hx hb dX12_way_19 (by decide) ?_
    refine lv_goto (tgt := 24) hx hb dX12_way_20 (by decide) ?_
    have hPc := hP.sub (ws' := [(wO12 mm i_thrown m_s m_spare m_kept m_undone m_triedWay m_isKept i_undoMany m_tape i_length i_size i_p i_at i_token i_number i_letterMany i_fault i_faultAt m_letters i_isKnown m_choice m_row m_up m_low m_m m_bestUp m_bestLow m_replyUp m_replyLow m_worthUp m_worthLow m_bestWay i_seed m_told i_toldMany)]) [0] rfl
    have hDc := hD.sub (ws' := [(wO12 mm i_thrown m_s m_spare m_kept m_undone m_triedWay m_isKept i_undoMany m_tape i_length i_size i_p i_at i_token i_number i_letterMany i_fault i_faultAt m_letters i_isKnown m_choice m_row m_up m_low m_m m_bestUp m_bestLow m_replyUp m_replyLow m_worthUp m_worthLow m_bestWay i_seed m_told i_toldMany)]) [0] (by decide) rfl
    have hFc := va_free (wc := [(wO12 mm i_thrown m_s m_spare m_kept m_undone m_triedWay m_isKept i_undoMany m_tape i_length i_size i_p i_at i_token i_number i_letterMany i_fault i_faultAt m_letters i_isKnown m_choice m_row m_up m_low m_m m_bestUp m_bestLow m_replyUp m_replyLow m_worthUp m_worthLow m_bestWay i_seed m_told i_toldMany)]) hD hS hA [0] rfl
    refine va_calli (va_runV (As := [.int 1]) (rest := []) ⟨hx, hb, hml, hown, hts⟩ (c_X12_throwsIf l D g s.heap.size mm 1 i_thrown m_s m_spare m_kept m_undone m_triedWay m_isKept i_undoMany m_tape i_length i_size i_p i_at i_token i_number i_letterMany i_fault i_faultAt m_letters i_isKnown m_choice m_row m_up m_low m_m m_bestUp m_bestLow m_replyUp m_replyLow m_worthUp m_worthLow m_bestWay i_seed m_told i_toldMany (⟨by decide, by decide⟩ : 0 ≤ (1 : Int32).toInt ∧ (1 : Int32).toInt ≤ 1) (tr_w h_i_undoMany (by decide) (by decide)) (tr_w h_i_length (by decide) (by decide)) (tr_w h_i_size (by decide) (by decide)) (tr_w h_i_p (by decide) (by decide)) (tr_w h_i_at (by decide) (by decide)) (tr_w h_i_token (by decide) (by decide)) (tr_w h_i_number (by decide) (by decide)) (tr_w h_i_letterMany (by decide) (by decide)) (tr_w h_i_faultAt (by decide) (by decide)) (tr_w h_i_isKnown (by decide) (by decide)) (tr_w h_i_toldMany (by decide) (by decide))) (cwV 1 hts (tz_gV qw_206 qw_207 qw_208 qw_3 qw_209) rfl rfl rfl (by decide +kernel) ⟨Nat.le_of_ble_eq_true rfl, Nat.le_of_ble_eq_true rfl⟩) ⟨tz_blQ, va_recv hK hPc (ci := 12) (q0 := 0) rfl rfl, tz_preQ hPc hK hDc⟩ rfl rfl hl.1 rfl (lv_room (Nat.le_of_ble_eq_true rfl)) dX12_way_24 ⟨Nat.le_of_ble_eq_true rfl, Nat.le_of_ble_eq_true rfl⟩) hS (fun q _ h => hFc q h) hFc (fun r_58932 u t H1 locs ht hvm hw hB hz1 hk1 hS => ?_)
    obtain ⟨o_thrown_58933, hf_58934, hP1, hD1⟩ := hB
    rw [ht] at hP1
    obtain ⟨hP, hD⟩ := va_join (wr := [(wI g m_s 0 193 sf)]) (w1 := [(wO12 mm o_thrown_58933 m_s m_spare m_kept m_undone m_triedWay m_isKept i_undoMany m_tape i_length i_size i_p i_at i_token i_number i_letterMany i_fault i_faultAt m_letters i_isKnown m_choice m_row m_up m_low m_m m_bestUp m_bestLow m_replyUp m_replyLow m_worthUp m_worthLow m_bestWay i_seed m_told i_toldMany)]) hP hD [0] [1] rfl rfl (by decide) (by decide) hk1 hFc hP1 hD1
    generalize H1 = H at hP hS ⊢
    have hP : va_P D vwCl [(wI g m_s 0 193 sf), (wO12 mm o_thrown_58933 m_s m_spare m_kept m_undone m_triedWay m_isKept i_undoMany m_tape i_length i_size i_p i_at i_token i_number i_letterMany i_fault i_faultAt m_letters i_isKnown m_choice m_row m_up m_low m_m m_bestUp m_bestLow m_replyUp m_replyLow m_worthUp m_worthLow m_bestWay i_seed m_told i_toldMany)] H := hP
    have hD : va_D A [(wI g m_s 0 193 sf), (wO12 mm o_thrown_58933 m_s m_spare m_kept m_undone m_triedWay m_isKept i_undoMany m_tape i_length i_size i_p i_at i_token i_number i_letterMany i_fault i_faultAt m_letters i_isKnown m_choice m_row m_up m_low m_m m_bestUp m_bestLow m_replyUp m_replyLow m_worthUp m_worthLow m_bestWay i_seed m_told i_toldMany)] := hD
    have kk_1 := tk_1
    have hw_58935 : 0 ≤ (r_58932 : Int32).toInt ∧ (r_58932 : Int32).toInt ≤ 1 := hw.1
    have hw_58935_p0 : (r_58932 : Int32).toInt = (1 : Int32).toInt := hw.2
    refine lv_if_eq (tgt := 32) hx hb dX12_way_27 (by decide) (fun c_58936 => ?_) (fun c_58936 => ?_)
    · skip
      have c_58936_i : (r_58932 : Int32).toInt = (0 : Int32).toInt := congrArg Int32.toInt c_58936
      have h_58937 : 0 ≤ (r_58932 : Int32).toInt ∧ (r_58932 : Int32).toInt ≤ 0 := nr_eq_l hw_58935 (⟨by decide, by decide⟩ : 0 ≤ (0 : Int32).toInt ∧ (0 : Int32).toInt ≤ 0) c_58936_i (by decide) (by decide)
      exfalso; have z_0 := tk_0; have z_1 := tk_1; (first | (clear h_i_undoMany h_i_length h_i_size h_i_p h_i_at h_i_token h_i_number h_i_letterMany h_i_faultAt h_i_isKnown h_i_toldMany hw_58926 c_58927_i h_58928 hw_58935 hw_58935_p0 c_58936_i h_58937; omega) | omega)
    · skip
      have c_58936_i : ¬ (r_58932 : Int32).toInt = (0 : Int32).toInt := (fun q => c_58936 (Int32.toInt_inj.mp q))
      have h_58938 : 1 ≤ (r_58932 : Int32).toInt ∧ (r_58932 : Int32).toInt ≤ 1 := nr_ne_l hw_58935 (⟨by decide, by decide⟩ : 0 ≤ (0 : Int32).toInt ∧ (0 : Int32).toInt ≤ 0) c_58936_i (by decide) (by decide)
      refine lv_iconst (v := 0) hx hb dX12_way_30 (by decide) ?_
      have hP9 := hP.sub (ws' := [(wO12 mm o_thrown_58933 m_s m_spare m_kept m_undone m_triedWay m_isKept i_undoMany m_tape i_length i_size i_p i_at i_token i_number i_letterMany i_fault i_faultAt m_letters i_isKnown m_choice m_row m_up m_low m_m m_bestUp m_bestLow m_replyUp m_replyLow m_worthUp m_worthLow m_bestWay i_seed m_told i_toldMany), (wI g m_s 0 193 sf)]) [1, 0] rfl
      have hD9 := hD.sub (ws' := [(wO12 mm o_thrown_58933 m_s m_spare m_kept m_undone m_triedWay m_isKept i_undoMany m_tape i_length i_size i_p i_at i_token i_number i_letterMany i_fault i_faultAt m_letters i_isKnown m_choice m_row m_up m_low m_m m_bestUp m_bestLow m_replyUp m_replyLow m_worthUp m_worthLow m_bestWay i_seed m_told i_toldMany), (wI g m_s 0 193 sf)]) [1, 0] (by decide) rfl
      exact W.iret (v := 0) hx hb hr (fun t ht hW => ⟨⟨0, 0, rfl, ⟨rfl, trivial⟩, o_thrown_58933, (by have z_0 := tk_0; have z_1 := tk_1; have z_2 := tk_2; have z_3 := tk_3; have z_4 := tk_4; have z_5 := tk_5; have z_6 := tk_6; have z_8 := tk_8; have z_9 := tk_9; have z_400 := tk_400; have z_m := tk_m1; (first | (clear h_i_undoMany h_i_length h_i_size h_i_p h_i_at h_i_token h_i_number h_i_letterMany h_i_faultAt h_i_isKnown h_i_toldMany hw_58926 c_58927_i h_58928 hw_58935 hw_58935_p0 c_58936_i h_58938; omega) | omega)), by rw [ht]; exact hP9, hD9⟩, hS.F ht⟩) hS.2.2 dX12_way_31
  · skip
    have kk_0 := tk_0
    have c_58927_i : ¬ (r_58925 : Int32).toInt = (0 : Int32).toInt := (fun q => c_58927 (Int32.toInt_inj.mp q))
    have hw_58926_p0_u := (hw_58926_p0).get (fun q => c_58927_i (q.trans tk_0.symm))
    have h_58929 : 0 ≤ (p0 : Int32).toInt ∧ (p0 : Int32).toInt ≤ 11 := by (first | (clear h_i_undoMany h_i_length h_i_size h_i_p h_i_at h_i_token h_i_number h_i_letterMany h_i_faultAt h_i_isKnown h_i_toldMany hw_58926 c_58927_i; omega) | omega)
    have h_58930 : 0 ≤ (p1 : Int32).toInt ∧ (p1 : Int32).toInt ≤ 2 := by (first | (clear h_i_undoMany h_i_length h_i_size h_i_p h_i_at h_i_token h_i_number h_i_letterMany h_i_faultAt h_i_isKnown h_i_toldMany hw_58926 c_58927_i h_58929; omega) | omega)
    have h_58931 : 1 ≤ (r_58925 : Int32).toInt ∧ (r_58925 : Int32).toInt ≤ 1 := nr_ne_l hw_58926 (⟨by decide, by decide⟩ : 0 ≤ (0 : Int32).toInt ∧ (0 : Int32).toInt ≤ 0) c_58927_i (by decide) (by decide)
    refine lv_iload_n hx hb dX12_way_10 rfl (lv_at hl 3 rfl) ?_
    refine lv_iconst (v := 0) hx hb dX12_way_11 (by decide) ?_
    refine lv_iconst (v := 1) hx hb dX12_way_12 (by decide) ?_
    have hPc := hP.sub (ws' := []) [] rfl
    refine vp_callSi (va_Run.run (va_runS (As := [.int p2, .int 0, .int 1]) (rest := [.ref mm]) ⟨hx, hb, hml, hown, hts⟩ (c_X12_isIn l D g p2 0 1) (va_cwS 3 hts (tz_gS qw_1 qw_2 qw_3 qw_4) rfl rfl rfl (by decide +kernel) ⟨Nat.le_of_ble_eq_true rfl, Nat.le_of_ble_eq_true rfl⟩) ⟨tz_blS, tz_preS hPc hK⟩ rfl rfl hl.1 rfl (lv_room (Nat.le_of_ble_eq_true rfl)) dX12_way_13 ⟨Nat.le_of_ble_eq_true rfl, Nat.le_of_ble_eq_true rfl⟩)) (fun r_58939 hw => ?_)
    have kk_1 := tk_1
    have hw_58940 : 0 ≤ (r_58939 : Int32).toInt ∧ (r_58939 : Int32).toInt ≤ 1 := hw.1
    have hw_58940_p0 : Hide (¬ (r_58939 : Int32).toInt = 0 → (0 : Int32).toInt ≤ (p2 : Int32).toInt ∧ (p2 : Int32).toInt ≤ (1 : Int32).toInt) := hw.2.1
    have hw_58940_p1 : Hide ((r_58939 : Int32).toInt = 0 → (p2 : Int32).toInt < (0 : Int32).toInt ∨ (1 : Int32).toInt < (p2 : Int32).toInt) := hw.2.2
    refine lv_if_ne (tgt := 23) hx hb dX12_way_16 (by decide) (fun c_58941 => ?_) (fun c_58941 => ?_)
    · skip
      have c_58941_i : ¬ (r_58939 : Int32).toInt = (0 : Int32).toInt := (fun q => c_58941 (Int32.toInt_inj.mp q))
      have hw_58940_p0_u := (hw_58940_p0).get (fun q => c_58941_i (q.trans tk_0.symm))
      have h_58942 : 1 ≤ (r_58939 : Int32).toInt ∧ (r_58939 : Int32).toInt ≤ 1 := nr_ne_l hw_58940 (⟨by decide, by decide⟩ : 0 ≤ (0 : Int32).toInt ∧ (0 : Int32).toInt ≤ 0) c_58941_i (by decide) (by decide)
      refine lv_iconst (v := 0) hx hb dX12_way_23 (by decide) ?_
      have hPc := hP.sub (ws' := [(wO12 mm i_thrown m_s m_spare m_kept m_undone m_triedWay m_isKept i_undoMany m_tape i_length i_size i_p i_at i_token i_number i_letterMany i_fault i_faultAt m_letters i_isKnown m_choice m_row m_up m_low m_m m_bestUp m_bestLow m_replyUp m_replyLow m_worthUp m_worthLow m_bestWay i_seed m_told i_toldMany)]) [0] rfl
      have hDc := hD.sub (ws' := [(wO12 mm i_thrown m_s m_spare m_kept m_undone m_triedWay m_isKept i_undoMany m_tape i_length i_size i_p i_at i_token i_number i_letterMany i_fault i_faultAt m_letters i_isKnown m_choice m_row m_up m_low m_m m_bestUp m_bestLow m_replyUp m_replyLow m_worthUp m_worthLow m_bestWay i_seed m_told i_toldMany)]) [0] (by decide) rfl
      have hFc := va_free (wc := [(wO12 mm i_thrown m_s m_spare m_kept m_undone m_triedWay m_isKept i_undoMany m_tape i_length i_size i_p i_at i_token i_number i_letterMany i_fault i_faultAt m_letters i_isKnown m_choice m_row m_up m_low m_m m_bestUp m_bestLow m_replyUp m_replyLow m_worthUp m_worthLow m_bestWay i_seed m_told i_toldMany)]) hD hS hA [0] rfl
      refine va_calli (va_runV (As := [.int 0]) (rest := []) ⟨hx, hb, hml, hown, hts⟩ (c_X12_throwsIf l D g s.heap.size mm 0 i_thrown m_s m_spare m_kept m_undone m_triedWay m_isKept i_undoMany m_tape i_length i_size i_p i_at i_token i_number i_letterMany i_fault i_faultAt m_letters i_isKnown m_choice m_row m_up m_low m_m m_bestUp m_bestLow m_replyUp m_replyLow m_worthUp m_worthLow m_bestWay i_seed m_told i_toldMany (⟨by decide, by decide⟩ : 0 ≤ (0 : Int32).toInt ∧ (0 : Int32).toInt ≤ 1) (tr_w h_i_undoMany (by decide) (by decide)) (tr_w h_i_length (by decide) (by decide)) (tr_w h_i_size (by decide) (by decide)) (tr_w h_i_p (by decide) (by decide)) (tr_w h_i_at (by decide) (by decide)) (tr_w h_i_token (by decide) (by decide)) (tr_w h_i_number (by decide) (by decide)) (tr_w h_i_letterMany (by decide) (by decide)) (tr_w h_i_faultAt (by decide) (by decide)) (tr_w h_i_isKnown (by decide) (by decide)) (tr_w h_i_toldMany (by decide) (by decide))) (cwV 1 hts (tz_gV qw_206 qw_207 qw_208 qw_3 qw_209) rfl rfl rfl (by decide +kernel) ⟨Nat.le_of_ble_eq_true rfl, Nat.le_of_ble_eq_true rfl⟩) ⟨tz_blQ, va_recv hK hPc (ci := 12) (q0 := 0) rfl rfl, tz_preQ hPc hK hDc⟩ rfl rfl hl.1 rfl (lv_room (Nat.le_of_ble_eq_true rfl)) dX12_way_24 ⟨Nat.le_of_ble_eq_true rfl, Nat.le_of_ble_eq_true rfl⟩) hS (fun q _ h => hFc q h) hFc (fun r_58944 u t H1 locs ht hvm hw hB hz1 hk1 hS => ?_)
      obtain ⟨o_thrown_58945, hf_58946, hP1, hD1⟩ := hB
      rw [ht] at hP1
      obtain ⟨hP, hD⟩ := va_join (wr := [(wI g m_s 0 193 sf)]) (w1 := [(wO12 mm o_thrown_58945 m_s m_spare m_kept m_undone m_triedWay m_isKept i_undoMany m_tape i_length i_size i_p i_at i_token i_number i_letterMany i_fault i_faultAt m_letters i_isKnown m_choice m_row m_up m_low m_m m_bestUp m_bestLow m_replyUp m_replyLow m_worthUp m_worthLow m_bestWay i_seed m_told i_toldMany)]) hP hD [0] [1] rfl rfl (by decide) (by decide) hk1 hFc hP1 hD1
      generalize H1 = H at hP hS ⊢
      have hP : va_P D vwCl [(wI g m_s 0 193 sf), (wO12 mm o_thrown_58945 m_s m_spare m_kept m_undone m_triedWay m_isKept i_undoMany m_tape i_length i_size i_p i_at i_token i_number i_letterMany i_fault i_faultAt m_letters i_isKnown m_choice m_row m_up m_low m_m m_bestUp m_bestLow m_replyUp m_replyLow m_worthUp m_worthLow m_bestWay i_seed m_told i_toldMany)] H := hP
      have hD : va_D A [(wI g m_s 0 193 sf), (wO12 mm o_thrown_58945 m_s m_spare m_kept m_undone m_triedWay m_isKept i_undoMany m_tape i_length i_size i_p i_at i_token i_number i_letterMany i_fault i_faultAt m_letters i_isKnown m_choice m_row m_up m_low m_m m_bestUp m_bestLow m_replyUp m_replyLow m_worthUp m_worthLow m_bestWay i_seed m_told i_toldMany)] := hD
      have hw_58947 : 0 ≤ (r_58944 : Int32).toInt ∧ (r_58944 : Int32).toInt ≤ 1 := hw.1
      have hw_58947_p0 : (r_58944 : Int32).toInt = (0 : Int32).toInt := hw.2
      refine lv_if_eq (tgt := 32) hx hb dX12_way_27 (by decide) (fun c_58948 => ?_) (fun c_58948 => ?_)
      · skip
        have c_58948_i : (r_58944 : Int32).toInt = (0 : Int32).toInt := congrArg Int32.toInt c_58948
        have h_58949 : 0 ≤ (r_58944 : Int32).toInt ∧ (r_58944 : Int32).toInt ≤ 0 := nr_eq_l hw_58947 (⟨by decide, by decide⟩ : 0 ≤ (0 : Int32).toInt ∧ (0 : Int32).toInt ≤ 0) c_58948_i (by decide) (by decide)
        refine lv_iload_n hx hb dX12_way_32 rfl (lv_at hl 3 rfl) ?_
        refine lv_if_ne (tgt := 45) hx hb dX12_way_33 (by decide) (fun c_58951 => ?_) (fun c_58951 => ?_)
        · skip
          have c_58951_i : ¬ (p2 : Int32).toInt = (0 : Int32).toInt := (fun q => c_58951 (Int32.toInt_inj.mp q))
          refine lv_aload_n hx hb dX12_way_45 rfl (lv_at hl 0 rfl) ?_
          refine lv_iload_n hx hb dX12_way_46 rfl (lv_at hl 1 rfl) ?_
          refine lv_iload_n hx hb dX12_way_47 rfl (lv_at hl 2 rfl) ?_
          have hPc := hP.sub (ws' := [(wO12 mm o_thrown_58945 m_s m_spare m_kept m_undone m_triedWay m_isKept i_undoMany m_tape i_length i_size i_p i_at i_token i_number i_letterMany i_fault i_faultAt m_letters i_isKnown m_choice m_row m_up m_low m_m m_bestUp m_bestLow m_replyUp m_replyLow m_worthUp m_worthLow m_bestWay i_seed m_told i_toldMany), (wI g m_s 0 193 sf)]) [1, 0] rfl
          refine vp_callSi (va_Run.run (va_runV (As := [.int p0, .int p1]) (rest := []) ⟨hx, hb, hml, hown, hts⟩ (c_X12_heavy l D g mm p0 p1 o_thrown_58945 m_s m_spare m_kept m_undone m_triedWay m_isKept i_undoMany m_tape i_length i_size i_p i_at i_token i_number i_letterMany i_fault i_faultAt m_letters i_isKnown m_choice m_row m_up m_low m_m m_bestUp m_bestLow m_replyUp m_replyLow m_worthUp m_worthLow m_bestWay i_seed m_told i_toldMany sf (tr_w h_58929 (by decide) (by decide)) (tr_w h_58930 (by decide) (by decide)) (tr_w h_i_undoMany (by decide) (by decide)) (tr_w h_i_length (by decide) (by decide)) (tr_w h_i_size (by decide) (by decide)) (tr_w h_i_p (by decide) (by decide)) (tr_w h_i_at (by decide) (by decide)) (tr_w h_i_token (by decide) (by decide)) (tr_w h_i_number (by decide) (by decide)) (tr_w h_i_letterMany (by decide) (by decide)) (tr_w h_i_faultAt (by decide) (by decide)) (tr_w h_i_isKnown (by decide) (by decide)) (tr_w h_i_toldMany (by decide) (by decide)) hG) (cwV 2 hts (tz_gV qw_115 qw_116 qw_117 qw_3 qw_118) rfl rfl rfl (by decide +kernel) ⟨Nat.le_of_ble_eq_true rfl, Nat.le_of_ble_eq_true rfl⟩) ⟨tz_blS, va_recv hK hPc (ci := 12) (q0 := 0) rfl rfl, tz_preS hPc hK⟩ rfl rfl hl.1 rfl (lv_room (Nat.le_of_ble_eq_true rfl)) dX12_way_48 ⟨Nat.le_of_ble_eq_true rfl, Nat.le_of_ble_eq_true rfl⟩)) (fun r_58953 hw => ?_)
          have hw_58954 : 0 ≤ (r_58953 : Int32).toInt ∧ (r_58953 : Int32).toInt ≤ 3 := hw.1
          have hw_58954_p0 : (r_58953 : Int32) = sf (73 + 3 * (p0 : Int32).toInt.toNat + (p1 : Int32).toInt.toNat) := hw.2
          have hP9 := hP.sub (ws' := [(wO12 mm o_thrown_58945 m_s m_spare m_kept m_undone m_triedWay m_isKept i_undoMany m_tape i_length i_size i_p i_at i_token i_number i_letterMany i_fault i_faultAt m_letters i_isKnown m_choice m_row m_up m_low m_m m_bestUp m_bestLow m_replyUp m_replyLow m_worthUp m_worthLow m_bestWay i_seed m_told i_toldMany), (wI g m_s 0 193 sf)]) [1, 0] rfl
          have hD9 := hD.sub (ws' := [(wO12 mm o_thrown_58945 m_s m_spare m_kept m_undone m_triedWay m_isKept i_undoMany m_tape i_length i_size i_p i_at i_token i_number i_letterMany i_fault i_faultAt m_letters i_isKnown m_choice m_row m_up m_low m_m m_bestUp m_bestLow m_replyUp m_replyLow m_worthUp m_worthLow m_bestWay i_seed m_told i_toldMany), (wI g m_s 0 193 sf)]) [1, 0] (by decide) rfl
          exact W.iret (v := r_58953) hx hb hr (fun t ht hW => ⟨⟨r_58953, r_58953, rfl, ⟨rfl, trivial⟩, o_thrown_58945, (by have h7 := congrArg Int32.toInt hw_58954_p0; have z_0 := tk_0; have z_1 := tk_1; have z_2 := tk_2; have z_3 := tk_3; have z_4 := tk_4; have z_5 := tk_5; have z_6 := tk_6; have z_8 := tk_8; have z_9 := tk_9; have z_400 := tk_400; have z_m := tk_m1; (first | (clear h_i_undoMany h_i_length h_i_size h_i_p h_i_at h_i_token h_i_number h_i_letterMany h_i_faultAt h_i_isKnown h_i_toldMany hw_58926 c_58927_i h_58931 hw_58940 c_58941_i h_58942 hw_58947 hw_58947_p0 c_58948_i h_58949 c_58951_i; omega) | omega)), by rw [ht]; exact hP9, hD9⟩, hS.F ht⟩) hS.2.2 dX12_way_51
        · skip
          have c_58951_i : (p2 : Int32).toInt = (0 : Int32).toInt := congrArg Int32.toInt c_58951
          have h_58952 : 0 ≤ (p2 : Int32).toInt ∧ (p2 : Int32).toInt ≤ 0 := by rw [c_58951]; exact ⟨by decide, by decide⟩
          refine lv_aload_n hx hb dX12_way_36 rfl (lv_at hl 0 rfl) ?_
          refine lv_iload_n hx hb dX12_way_37 rfl (lv_at hl 1 rfl) ?_
          refine lv_iload_n hx hb dX12_way_38 rfl (lv_at hl 2 rfl) ?_
          have hPc := hP.sub (ws' := [(wO12 mm o_thrown_58945 m_s m_spare m_kept m_undone m_triedWay m_isKept i_undoMany m_tape i_length i_size i_p i_at i_token i_number i_letterMany i_fault i_faultAt m_letters i_isKnown m_choice m_row m_up m_low m_m m_bestUp m_bestLow m_replyUp m_replyLow m_worthUp m_worthLow m_bestWay i_seed m_told i_toldMany), (wI g m_s 0 193 sf)]) [1, 0] rfl
          refine vp_callSi (va_Run.run (va_runV (As := [.int p0, .int p1]) (rest := []) ⟨hx, hb, hml, hown, hts⟩ (c_X12_to l D g mm p0 p1 o_thrown_58945 m_s m_spare m_kept m_undone m_triedWay m_isKept i_undoMany m_tape i_length i_size i_p i_at i_token i_number i_letterMany i_fault i_faultAt m_letters i_isKnown m_choice m_row m_up m_low m_m m_bestUp m_bestLow m_replyUp m_replyLow m_worthUp m_worthLow m_bestWay i_seed m_told i_toldMany sf (tr_w h_58929 (by decide) (by decide)) (tr_w h_58930 (by decide) (by decide)) (tr_w h_i_undoMany (by decide) (by decide)) (tr_w h_i_length (by decide) (by decide)) (tr_w h_i_size (by decide) (by decide)) (tr_w h_i_p (by decide) (by decide)) (tr_w h_i_at (by decide) (by decide)) (tr_w h_i_token (by decide) (by decide)) (tr_w h_i_number (by decide) (by decide)) (tr_w h_i_letterMany (by decide) (by decide)) (tr_w h_i_faultAt (by decide) (by decide)) (tr_w h_i_isKnown (by decide) (by decide)) (tr_w h_i_toldMany (by decide) (by decide)) hG) (cwV 2 hts (tz_gV qw_121 qw_122 qw_123 qw_3 qw_124) rfl rfl rfl (by decide +kernel) ⟨Nat.le_of_ble_eq_true rfl, Nat.le_of_ble_eq_true rfl⟩) ⟨tz_blS, va_recv hK hPc (ci := 12) (q0 := 0) rfl rfl, tz_preS hPc hK⟩ rfl rfl hl.1 rfl (lv_room (Nat.le_of_ble_eq_true rfl)) dX12_way_39 ⟨Nat.le_of_ble_eq_true rfl, Nat.le_of_ble_eq_true rfl⟩)) (fun r_58955 hw => ?_)
          have hw_58956 : 0 ≤ (r_58955 : Int32).toInt ∧ (r_58955 : Int32).toInt ≤ 11 := hw.1
          have hw_58956_p0 : (r_58955 : Int32) = sf (37 + 3 * (p0 : Int32).toInt.toNat + (p1 : Int32).toInt.toNat) := hw.2
          refine lv_goto (tgt := 51) hx hb dX12_way_42 (by decide) ?_
          have hP9 := hP.sub (ws' := [(wO12 mm o_thrown_58945 m_s m_spare m_kept m_undone m_triedWay m_isKept i_undoMany m_tape i_length i_size i_p i_at i_token i_number i_letterMany i_fault i_faultAt m_letters i_isKnown m_choice m_row m_up m_low m_m m_bestUp m_bestLow m_replyUp m_replyLow m_worthUp m_worthLow m_bestWay i_seed m_told i_toldMany), (wI g m_s 0 193 sf)]) [1, 0] rfl
          have hD9 := hD.sub (ws' := [(wO12 mm o_thrown_58945 m_s m_spare m_kept m_undone m_triedWay m_isKept i_undoMany m_tape i_length i_size i_p i_at i_token i_number i_letterMany i_fault i_faultAt m_letters i_isKnown m_choice m_row m_up m_low m_m m_bestUp m_bestLow m_replyUp m_replyLow m_worthUp m_worthLow m_bestWay i_seed m_told i_toldMany), (wI g m_s 0 193 sf)]) [1, 0] (by decide) rfl
          exact W.iret (v := r_58955) hx hb hr (fun t ht hW => ⟨⟨r_58955, r_58955, rfl, ⟨rfl, trivial⟩, o_thrown_58945, (by have h7 := congrArg Int32.toInt hw_58956_p0; have z_0 := tk_0; have z_1 := tk_1; have z_2 := tk_2; have z_3 := tk_3; have z_4 := tk_4; have z_5 := tk_5; have z_6 := tk_6; have z_8 := tk_8; have z_9 := tk_9; have z_400 := tk_400; have z_m := tk_m1; (first | (clear h_i_undoMany h_i_length h_i_size h_i_p h_i_at h_i_token h_i_number h_i_letterMany h_i_faultAt h_i_isKnown h_i_toldMany hw_58926 c_58927_i h_58931 hw_58940 c_58941_i h_58942 hw_58947 hw_58947_p0 c_58948_i h_58949 c_58951_i h_58952; omega) | omega)), by rw [ht]; exact hP9, hD9⟩, hS.F ht⟩) hS.2.2 dX12_way_51
      · skip
        have c_58948_i : ¬ (r_58944 : Int32).toInt = (0 : Int32).toInt := (fun q => c_58948 (Int32.toInt_inj.mp q))
        have h_58950 : 1 ≤ (r_58944 : Int32).toInt ∧ (r_58944 : Int32).toInt ≤ 1 := nr_ne_l hw_58947 (⟨by decide, by decide⟩ : 0 ≤ (0 : Int32).toInt ∧ (0 : Int32).toInt ≤ 0) c_58948_i (by decide) (by decide)
        exfalso; have z_0 := tk_0; have z_1 := tk_1; (first | (clear h_i_undoMany h_i_length h_i_size h_i_p h_i_at h_i_token h_i_number h_i_letterMany h_i_faultAt h_i_isKnown h_i_toldMany hw_58926 c_58927_i h_58929 h_58930 h_58931 hw_58940 c_58941_i h_58942 hw_58947 hw_58947_p0 c_58948_i h_58950; omega) | omega)
    · skip
      have c_58941_i : (r_58939 : Int32).toInt = (0 : Int32).toInt := congrArg Int32.toInt c_58941
      have hw_58940_p1_u := (hw_58940_p1).get (c_58941_i.trans tk_0)
      have h_58943 : 0 ≤ (r_58939 : Int32).toInt ∧ (r_58939 : Int32).toInt ≤ 0 := nr_eq_l hw_58940 (⟨by decide, by decide⟩ : 0 ≤ (0 : Int32).toInt ∧ (0 : Int32).toInt ≤ 0) c_58941_i (by decide) (by decide)
      refine lv_iconst (v := 1) hx hb dX12_way_19 (by decide) ?_
      refine lv_goto (tgt := 24) hx hb dX12_way_20 (by decide) ?_
      have hPc := hP.sub (ws' := [(wO12 mm i_thrown m_s m_spare m_kept m_undone m_triedWay m_isKept i_undoMany m_tape i_length i_size i_p i_at i_token i_number i_letterMany i_fault i_faultAt m_letters i_isKnown m_choice m_row m_up m_low m_m m_bestUp m_bestLow m_replyUp m_replyLow m_worthUp m_worthLow m_bestWay i_seed m_told i_toldMany)]) [0] rfl
      have hDc := hD.sub (ws' := [(wO12 mm i_thrown m_s m_spare m_kept m_undone m_triedWay m_isKept i_undoMany m_tape i_length i_size i_p i_at i_token i_number i_letterMany i_fault i_faultAt m_letters i_isKnown m_choice m_row m_up m_low m_m m_bestUp m_bestLow m_replyUp m_replyLow m_worthUp m_worthLow m_bestWay i_seed m_told i_toldMany)]) [0] (by decide) rfl
      have hFc := va_free (wc := [(wO12 mm i_thrown m_s m_spare m_kept m_undone m_triedWay m_isKept i_undoMany m_tape i_length i_size i_p i_at i_token i_number i_letterMany i_fault i_faultAt m_letters i_isKnown m_choice m_row m_up m_low m_m m_bestUp m_bestLow m_replyUp m_replyLow m_worthUp m_worthLow m_bestWay i_seed m_told i_toldMany)]) hD hS hA [0] rfl
      refine va_calli (va_runV (As := [.int 1]) (rest := []) ⟨hx, hb, hml, hown, hts⟩ (c_X12_throwsIf l D g s.heap.size mm 1 i_thrown m_s m_spare m_kept m_undone m_triedWay m_isKept i_undoMany m_tape i_length i_size i_p i_at i_token i_number i_letterMany i_fault i_faultAt m_letters i_isKnown m_choice m_row m_up m_low m_m m_bestUp m_bestLow m_replyUp m_replyLow m_worthUp m_worthLow m_bestWay i_seed m_told i_toldMany (⟨by decide, by decide⟩ : 0 ≤ (1 : Int32).toInt ∧ (1 : Int32).toInt ≤ 1) (tr_w h_i_undoMany (by decide) (by decide)) (tr_w h_i_length (by decide) (by decide)) (tr_w h_i_size (by decide) (by decide)) (tr_w h_i_p (by decide) (by decide)) (tr_w h_i_at (by decide) (by decide)) (tr_w h_i_token (by decide) (by decide)) (tr_w h_i_number (by decide) (by decide)) (tr_w h_i_letterMany (by decide) (by decide)) (tr_w h_i_faultAt (by decide) (by decide)) (tr_w h_i_isKnown (by decide) (by decide)) (tr_w h_i_toldMany (by decide) (by decide))) (cwV 1 hts (tz_gV qw_206 qw_207 qw_208 qw_3 qw_209) rfl rfl rfl (by decide +kernel) ⟨Nat.le_of_ble_eq_true rfl, Nat.le_of_ble_eq_true rfl⟩) ⟨tz_blQ, va_recv hK hPc (ci := 12) (q0 := 0) rfl rfl, tz_preQ hPc hK hDc⟩ rfl rfl hl.1 rfl (lv_room (Nat.le_of_ble_eq_true rfl)) dX12_way_24 ⟨Nat.le_of_ble_eq_true rfl, Nat.le_of_ble_eq_true rfl⟩) hS (fun q _ h => hFc q h) hFc (fun r_58957 u t H1 locs ht hvm hw hB hz1 hk1 hS => ?_)
      obtain ⟨o_thrown_58958, hf_58959, hP1, hD1⟩ := hB
      rw [ht] at hP1
      obtain ⟨hP, hD⟩ := va_join (wr := [(wI g m_s 0 193 sf)]) (w1 := [(wO12 mm o_thrown_58958 m_s m_spare m_kept m_undone m_triedWay m_isKept i_undoMany m_tape i_length i_size i_p i_at i_token i_number i_letterMany i_fault i_faultAt m_letters i_isKnown m_choice m_row m_up m_low m_m m_bestUp m_bestLow m_replyUp m_replyLow m_worthUp m_worthLow m_bestWay i_seed m_told i_toldMany)]) hP hD [0] [1] rfl rfl (by decide) (by decide) hk1 hFc hP1 hD1
      generalize H1 = H at hP hS ⊢
      have hP : va_P D vwCl [(wI g m_s 0 193 sf), (wO12 mm o_thrown_58958 m_s m_spare m_kept m_undone m_triedWay m_isKept i_undoMany m_tape i_length i_size i_p i_at i_token i_number i_letterMany i_fault i_faultAt m_letters i_isKnown m_choice m_row m_up m_low m_m m_bestUp m_bestLow m_replyUp m_replyLow m_worthUp m_worthLow m_bestWay i_seed m_told i_toldMany)] H := hP
      have hD : va_D A [(wI g m_s 0 193 sf), (wO12 mm o_thrown_58958 m_s m_spare m_kept m_undone m_triedWay m_isKept i_undoMany m_tape i_length i_size i_p i_at i_token i_number i_letterMany i_fault i_faultAt m_letters i_isKnown m_choice m_row m_up m_low m_m m_bestUp m_bestLow m_replyUp m_replyLow m_worthUp m_worthLow m_bestWay i_seed m_told i_toldMany)] := hD
      have hw_58960 : 0 ≤ (r_58957 : Int32).toInt ∧ (r_58957 : Int32).toInt ≤ 1 := hw.1
      have hw_58960_p0 : (r_58957 : Int32).toInt = (1 : Int32).toInt := hw.2
      refine lv_if_eq (tgt := 32) hx hb dX12_way_27 (by decide) (fun c_58961 => ?_) (fun c_58961 => ?_)
      · skip
        have c_58961_i : (r_58957 : Int32).toInt = (0 : Int32).toInt := congrArg Int32.toInt c_58961
        have h_58962 : 0 ≤ (r_58957 : Int32).toInt ∧ (r_58957 : Int32).toInt ≤ 0 := nr_eq_l hw_58960 (⟨by decide, by decide⟩ : 0 ≤ (0 : Int32).toInt ∧ (0 : Int32).toInt ≤ 0) c_58961_i (by decide) (by decide)
        exfalso; have z_0 := tk_0; have z_1 := tk_1; (first | (clear h_i_undoMany h_i_length h_i_size h_i_p h_i_at h_i_token h_i_number h_i_letterMany h_i_faultAt h_i_isKnown h_i_toldMany hw_58926 c_58927_i h_58929 h_58930 h_58931 hw_58940 c_58941_i h_58943 hw_58960 hw_58960_p0 c_58961_i h_58962; omega) | omega)
      · skip
        have c_58961_i : ¬ (r_58957 : Int32).toInt = (0 : Int32).toInt := (fun q => c_58961 (Int32.toInt_inj.mp q))
        have h_58963 : 1 ≤ (r_58957 : Int32).toInt ∧ (r_58957 : Int32).toInt ≤ 1 := nr_ne_l hw_58960 (⟨by decide, by decide⟩ : 0 ≤ (0 : Int32).toInt ∧ (0 : Int32).toInt ≤ 0) c_58961_i (by decide) (by decide)
        refine lv_iconst (v := 0) hx hb dX12_way_30 (by decide) ?_
        have hP9 := hP.sub (ws' := [(wO12 mm o_thrown_58958 m_s m_spare m_kept m_undone m_triedWay m_isKept i_undoMany m_tape i_length i_size i_p i_at i_token i_number i_letterMany i_fault i_faultAt m_letters i_isKnown m_choice m_row m_up m_low m_m m_bestUp m_bestLow m_replyUp m_replyLow m_worthUp m_worthLow m_bestWay i_seed m_told i_toldMany), (wI g m_s 0 193 sf)]) [1, 0] rfl
        have hD9 := hD.sub (ws' := [(wO12 mm o_thrown_58958 m_s m_spare m_kept m_undone m_triedWay m_isKept i_undoMany m_tape i_length i_size i_p i_at i_token i_number i_letterMany i_fault i_faultAt m_letters i_isKnown m_choice m_row m_up m_low m_m m_bestUp m_bestLow m_replyUp m_replyLow m_worthUp m_worthLow m_bestWay i_seed m_told i_toldMany), (wI g m_s 0 193 sf)]) [1, 0] (by decide) rfl
        exact W.iret (v := 0) hx hb hr (fun t ht hW => ⟨⟨0, 0, rfl, ⟨rfl, trivial⟩, o_thrown_58958, (by have z_0 := tk_0; have z_1 := tk_1; have z_2 := tk_2; have z_3 := tk_3; have z_4 := tk_4; have z_5 := tk_5; have z_6 := tk_6; have z_8 := tk_8; have z_9 := tk_9; have z_400 := tk_400; have z_m := tk_m1; (first | (clear h_i_undoMany h_i_length h_i_size h_i_p h_i_at h_i_token h_i_number h_i_letterMany h_i_faultAt h_i_isKnown h_i_toldMany hw_58926 c_58927_i h_58929 h_58930 h_58931 hw_58940 c_58941_i h_58943 hw_58960 hw_58960_p0 c_58961_i h_58963; omega) | omega)), by rw [ht]; exact hP9, hD9⟩, hS.F ht⟩) hS.2.2 dX12_way_31
set_option maxHeartbeats 4000000 in
set_option maxRecDepth 100000 in
theorem c_X12_fault (l : Launch) (D : va_G) (g : Nat → ClassId) (sz : Nat) (mm : Nat) (i_thrown : Int32) (m_s : Nat) (m_spare : Nat) (m_kept : Nat) (m_undone : Nat) (m_triedWay : Nat) (m_isKept : Nat) (i_undoMany : Int32) (m_tape : Nat) (i_length : Int32) (i_size : Int32) (i_p : Int32) (i_at : Int32) (i_token : Int32) (i_number : Int32) (i_letterMany : Int32) (i_fault : Int32) (i_faultAt : Int32) (m_letters : Nat) (i_isKnown : Int32) (m_choice : Nat) (m_row : Nat) (m_up : Nat) (m_low : Nat) (m_m : Nat) (m_bestUp : Nat) (m_bestLow : Nat) (m_replyUp : Nat) (m_replyLow : Nat) (m_worthUp : Nat) (m_worthLow : Nat) (m_bestWay : Nat) (i_seed : Int32) (m_told : Nat) (i_toldMany : Int32) (h_i_undoMany : 0 ≤ (i_undoMany : Int32).toInt ∧ (i_undoMany : Int32).toInt ≤ 8) (h_i_length : 0 ≤ (i_length : Int32).toInt ∧ (i_length : Int32).toInt ≤ 440) (h_i_size : 0 ≤ (i_size : Int32).toInt ∧ (i_size : Int32).toInt ≤ 440) (h_i_p : 0 ≤ (i_p : Int32).toInt ∧ (i_p : Int32).toInt ≤ 440) (h_i_at : 0 ≤ (i_at : Int32).toInt ∧ (i_at : Int32).toInt ≤ 440) (h_i_token : 0 ≤ (i_token : Int32).toInt ∧ (i_token : Int32).toInt ≤ 4) (h_i_number : 0 ≤ (i_number : Int32).toInt ∧ (i_number : Int32).toInt ≤ 814) (h_i_letterMany : (-440) ≤ (i_letterMany : Int32).toInt ∧ (i_letterMany : Int32).toInt ≤ 440) (h_i_faultAt : 0 ≤ (i_faultAt : Int32).toInt ∧ (i_faultAt : Int32).toInt ≤ 440) (h_i_isKnown : 0 ≤ (i_isKnown : Int32).toInt ∧ (i_isKnown : Int32).toInt ≤ 1) (h_i_toldMany : 0 ≤ (i_toldMany : Int32).toInt ∧ (i_toldMany : Int32).toInt ≤ 900) : Met l yX12_fault (.code yX12_fault cX12_fault 1 (some .int) :: wsL_law) ({ frames := 0, cells := 0, slots := 0, locals := 0 }) (va_Pc [.ref mm] (fun U => U.heap.size = sz ∧ va_P D vwCl [(wO12 mm i_thrown m_s m_spare m_kept m_undone m_triedWay m_isKept i_undoMany m_tape i_length i_size i_p i_at i_token i_number i_letterMany i_fault i_faultAt m_letters i_isKnown m_choice m_row m_up m_low m_m m_bestUp m_bestLow m_replyUp m_replyLow m_worthUp m_worthLow m_bestWay i_seed m_told i_toldMany)] U.heap ∧ va_K D vwCl (TY g) U ∧ va_D (fun _ => True) [(wO12 mm i_thrown m_s m_spare m_kept m_undone m_triedWay m_isKept i_undoMany m_tape i_length i_size i_p i_at i_token i_number i_letterMany i_fault i_faultAt m_letters i_isKnown m_choice m_row m_up m_low m_m m_bestUp m_bestLow m_replyUp m_replyLow m_worthUp m_worthLow m_bestWay i_seed m_told i_toldMany)])) (va_Qi (fun r (_ : Unit) => True) (fun _ t => ∃ o_thrown : Int32, va_P D vwCl [(wO12 mm o_thrown m_s m_spare m_kept m_undone m_triedWay m_isKept i_undoMany m_tape i_length i_size i_p i_at i_token i_number i_letterMany i_fault i_faultAt m_letters i_isKnown m_choice m_row m_up m_low m_m m_bestUp m_bestLow m_replyUp m_replyLow m_worthUp m_worthLow m_bestWay i_seed m_told i_toldMany)] t.heap ∧ va_D (va_A [(wO12 mm i_thrown m_s m_spare m_kept m_undone m_triedWay m_isKept i_undoMany m_tape i_length i_size i_p i_at i_token i_number i_letterMany i_fault i_faultAt m_letters i_isKnown m_choice m_row m_up m_low m_m m_bestUp m_bestLow m_replyUp m_replyLow m_worthUp m_worthLow m_bestWay i_seed m_told i_toldMany)] sz) [(wO12 mm o_thrown m_s m_spare m_kept m_undone m_triedWay m_isKept i_undoMany m_tape i_length i_size i_p i_at i_token i_number i_letterMany i_fault i_faultAt m_letters i_isKnown m_choice m_row m_up m_low m_m m_bestUp m_bestLow m_replyUp m_replyLow m_worthUp m_worthLow m_bestWay i_seed m_told i_toldMany)]) (va_A [(wO12 mm i_thrown m_s m_spare m_kept m_undone m_triedWay m_isKept i_undoMany m_tape i_length i_size i_p i_at i_token i_number i_letterMany i_fault i_faultAt m_letters i_isKnown m_choice m_row m_up m_low m_m m_bestUp m_bestLow m_replyUp m_replyLow m_worthUp m_worthLow m_bestWay i_seed m_told i_toldMany)] sz)) 0 0 (va_A [(wO12 mm i_thrown m_s m_spare m_kept m_undone m_triedWay m_isKept i_undoMany m_tape i_length i_size i_p i_at i_token i_number i_letterMany i_fault i_faultAt m_letters i_isKnown m_choice m_row m_up m_low m_m m_bestUp m_bestLow m_replyUp m_replyLow m_worthUp m_worthLow m_bestWay i_seed m_told i_toldMany)] sz) := by
  refine Met.ofW (cc := cX12_fault) (maxL := 1) (ret := (some .int)) (by decide) rfl ?_
  intro p e s m args below meth c s₁ B hml hv
  obtain ⟨ha, hsz, hP, hK, hD0⟩ := hv
  have hx := B.exec
  have hb := B.bytes
  have hr := B.returns
  have hts0 := atoms_spec (ws := (.code yX12_fault cX12_fault 1 (some .int) :: wsL_law)) B.pre
  have hts : ∀ w ∈ wsL_law, w.before args s = true := fun w h => hts0 w (List.mem_cons_of_mem _ h)
  have hown : s.vm.findClass RX12 = some m.cls := findClass_of_methodNamed B.named
  have hlocks := B.notSynchronized
  subst hsz
  have hD := hD0.self (sz := s.heap.size)
  generalize hAe : va_A [(wO12 mm i_thrown m_s m_spare m_kept m_undone m_triedWay m_isKept i_undoMany m_tape i_length i_size i_p i_at i_token i_number i_letterMany i_fault i_faultAt m_letters i_isKnown m_choice m_row m_up m_low m_m m_bestUp m_bestLow m_replyUp m_replyLow m_worthUp m_worthLow m_bestWay i_seed m_told i_toldMany)] s.heap.size = A at hD ⊢
  have hA : ∀ q : Nat, s.heap.size ≤ q → A q := fun q h => by rw [← hAe]; exact Or.inr h
  have hS : va_S A s.heap s.heap [] := va_S.rf
  have hP : va_P D vwCl [(wO12 mm i_thrown m_s m_spare m_kept m_undone m_triedWay m_isKept i_undoMany m_tape i_length i_size i_p i_at i_token i_number i_letterMany i_fault i_faultAt m_letters i_isKnown m_choice m_row m_up m_low m_m m_bestUp m_bestLow m_replyUp m_replyLow m_worthUp m_worthLow m_bestWay i_seed m_told i_toldMany)] s.heap := hP
  refine W.eq (g2 := entryFrame m ([.ref mm] : List Value).toArray 1) (by rw [ha]) ?_
  have hl := lv_entry ([.ref mm]) (n := 1) (Nat.le_of_ble_eq_true rfl)
  rw [lg_entry_eq]
  generalize (lg_sl ([.ref mm]) ++ List.replicate (1 - (lg_sl ([.ref mm])).length) Slot.unset).toArray = ls at hl ⊢
  have hl : lv_has ls 1 [(0, .ref mm)] := hl
  refine lv_aload_n hx hb dX12_fault_0 rfl (lv_at hl 0 rfl) ?_
  refine lv_iconst (v := 0) hx hb dX12_fault_1 (by decide) ?_
  refine va_put (D := D) (ci := 12) (v := .int 0) (ty := .int) (C := RX12) (T := TX12) (N := 35) hx hb hts inlX12 tyX12 tyX12_ok nmX12 hown hK hP hD hS 0 rfl rfl 0 (by decide) (hts (Cond.fieldLink RX12 1 "ChanceRingsModel" "thrown" "I") qw_0) (fun _ h9 => h9) rfl (by decide +kernel) rfl rfl (Nat.le_of_ble_eq_true rfl) dX12_fault_2 (fun H locs hP hD hS => ?_)
  have hP : va_P D vwCl [(wO12 mm 0 m_s m_spare m_kept m_undone m_triedWay m_isKept i_undoMany m_tape i_length i_size i_p i_at i_token i_number i_letterMany i_fault i_faultAt m_letters i_isKnown m_choice m_row m_up m_low m_m m_bestUp m_bestLow m_replyUp m_replyLow m_worthUp m_worthLow m_bestWay i_seed m_told i_toldMany)] H := hP
  have hD : va_D A [(wO12 mm 0 m_s m_spare m_kept m_undone m_triedWay m_isKept i_undoMany m_tape i_length i_size i_p i_at i_token i_number i_letterMany i_fault i_faultAt m_letters i_isKnown m_choice m_row m_up m_low m_m m_bestUp m_bestLow m_replyUp m_replyLow m_worthUp m_worthLow m_bestWay i_seed m_told i_toldMany)] := hD
  refine lv_aload_n hx hb dX12_fault_5 rfl (lv_at hl 0 rfl) ?_
  refine va_get (D := D) (ci := 12) (v := .int i_fault) (C := RX12) (T := TX12) (N := 35) hx hb hts inlX12 hown hK hP 0 rfl rfl 16 (by decide) (hts (Cond.fieldLink RX12 99 "ChanceRingsModel" "fault" "I") qw_13) (fun _ h9 => h9) rfl dX12_fault_6 ?_
  have hP9 := hP.sub (ws' := [(wO12 mm 0 m_s m_spare m_kept m_undone m_triedWay m_isKept i_undoMany m_tape i_length i_size i_p i_at i_token i_number i_letterMany i_fault i_faultAt m_letters i_isKnown m_choice m_row m_up m_low m_m m_bestUp m_bestLow m_replyUp m_replyLow m_worthUp m_worthLow m_bestWay i_seed m_told i_toldMany)]) [0] rfl
  have hD9 := hD.sub (ws' := [(wO12 mm 0 m_s m_spare m_kept m_undone m_triedWay m_isKept i_undoMany m_tape i_length i_size i_p i_at i_token i_number i_letterMany i_fault i_faultAt m_letters i_isKnown m_choice m_row m_up m_low m_m m_bestUp m_bestLow m_replyUp m_replyLow m_worthUp m_worthLow m_bestWay i_seed m_told i_toldMany)]) [0] (by decide) rfl
  exact W.iret (v := i_fault) hx hb hr (fun t ht hW => ⟨⟨i_fault, (), rfl, trivial, 0, by rw [ht]; exact hP9, hD9⟩, hS.F ht⟩) hS.2.2 dX12_fault_9
set_option maxHeartbeats 4000000 in
set_option maxRecDepth 100000 in
theorem c_X12_four2 (l : Launch) (D : va_G) (g : Nat → ClassId) (sz : Nat) (mm : Nat) (p0 : Int32) (i_thrown : Int32) (m_s : Nat) (m_spare : Nat) (m_kept : Nat) (m_undone : Nat) (m_triedWay : Nat) (m_isKept : Nat) (i_undoMany : Int32) (m_tape : Nat) (i_length : Int32) (i_size : Int32) (i_p : Int32) (i_at : Int32) (i_token : Int32) (i_number : Int32) (i_letterMany : Int32) (i_fault : Int32) (i_faultAt : Int32) (m_letters : Nat) (i_isKnown : Int32) (m_choice : Nat) (m_row : Nat) (m_up : Nat) (m_low : Nat) (m_m : Nat) (m_bestUp : Nat) (m_bestLow : Nat) (m_replyUp : Nat) (m_replyLow : Nat) (m_worthUp : Nat) (m_worthLow : Nat) (m_bestWay : Nat) (i_seed : Int32) (m_told : Nat) (i_toldMany : Int32) (tf : Nat → Int32) (h_i_undoMany : 0 ≤ (i_undoMany : Int32).toInt ∧ (i_undoMany : Int32).toInt ≤ 8) (h_i_length : 0 ≤ (i_length : Int32).toInt ∧ (i_length : Int32).toInt ≤ 436) (h_i_size : 0 ≤ (i_size : Int32).toInt ∧ (i_size : Int32).toInt ≤ 440) (h_i_p : 0 ≤ (i_p : Int32).toInt ∧ (i_p : Int32).toInt ≤ 440) (h_i_at : 0 ≤ (i_at : Int32).toInt ∧ (i_at : Int32).toInt ≤ 440) (h_i_token : 0 ≤ (i_token : Int32).toInt ∧ (i_token : Int32).toInt ≤ 4) (h_i_number : 0 ≤ (i_number : Int32).toInt ∧ (i_number : Int32).toInt ≤ 814) (h_i_letterMany : (-440) ≤ (i_letterMany : Int32).toInt ∧ (i_letterMany : Int32).toInt ≤ 440) (h_i_faultAt : 0 ≤ (i_faultAt : Int32).toInt ∧ (i_faultAt : Int32).toInt ≤ 440) (h_i_isKnown : 0 ≤ (i_isKnown : Int32).toInt ∧ (i_isKnown : Int32).toInt ≤ 1) (h_i_toldMany : 0 ≤ (i_toldMany : Int32).toInt ∧ (i_toldMany : Int32).toInt ≤ 900) (h_tf : ∀ j : Nat, (-128) ≤ (tf j).toInt ∧ (tf j).toInt ≤ 127) : Met l yX12_four (.code yX12_four cX12_four 3 none :: wsL_law) ({ frames := 0, cells := 0, slots := 0, locals := 0 }) (va_Pc [.ref mm, .int p0] (fun U => U.heap.size = sz ∧ va_P D vwCl [(wO12 mm i_thrown m_s m_spare m_kept m_undone m_triedWay m_isKept i_undoMany m_tape i_length i_size i_p i_at i_token i_number i_letterMany i_fault i_faultAt m_letters i_isKnown m_choice m_row m_up m_low m_m m_bestUp m_bestLow m_replyUp m_replyLow m_worthUp m_worthLow m_bestWay i_seed m_told i_toldMany), (wI g m_tape 2 440 tf)] U.heap ∧ va_K D vwCl (TY g) U ∧ va_D (fun _ => True) [(wO12 mm i_thrown m_s m_spare m_kept m_undone m_triedWay m_isKept i_undoMany m_tape i_length i_size i_p i_at i_token i_number i_letterMany i_fault i_faultAt m_letters i_isKnown m_choice m_row m_up m_low m_m m_bestUp m_bestLow m_replyUp m_replyLow m_worthUp m_worthLow m_bestWay i_seed m_told i_toldMany), (wI g m_tape 2 440 tf)])) (va_Qv (fun (_ : Unit) => True) (fun _ t => ∃ o_length : Int32, ∃ otf : Nat → Int32, (0 ≤ (o_length : Int32).toInt ∧ (o_length : Int32).toInt ≤ 440) ∧ (∀ j : Nat, (-128) ≤ (otf j).toInt ∧ (otf j).toInt ≤ 127) ∧ ((o_length : Int32).toInt = (i_length : Int32).toInt + 4) ∧ (AP4 tf otf (i_length : Int32).toInt.toNat p0) ∧ va_P D vwCl [(wO12 mm i_thrown m_s m_spare m_kept m_undone m_triedWay m_isKept i_undoMany m_tape o_length i_size i_p i_at i_token i_number i_letterMany i_fault i_faultAt m_letters i_isKnown m_choice m_row m_up m_low m_m m_bestUp m_bestLow m_replyUp m_replyLow m_worthUp m_worthLow m_bestWay i_seed m_told i_toldMany), (wI g m_tape 2 440 otf)] t.heap ∧ va_D (va_A [(wO12 mm i_thrown m_s m_spare m_kept m_undone m_triedWay m_isKept i_undoMany m_tape i_length i_size i_p i_at i_token i_number i_letterMany i_fault i_faultAt m_letters i_isKnown m_choice m_row m_up m_low m_m m_bestUp m_bestLow m_replyUp m_replyLow m_worthUp m_worthLow m_bestWay i_seed m_told i_toldMany), (wI g m_tape 2 440 tf)] sz) [(wO12 mm i_thrown m_s m_spare m_kept m_undone m_triedWay m_isKept i_undoMany m_tape o_length i_size i_p i_at i_token i_number i_letterMany i_fault i_faultAt m_letters i_isKnown m_choice m_row m_up m_low m_m m_bestUp m_bestLow m_replyUp m_replyLow m_worthUp m_worthLow m_bestWay i_seed m_told i_toldMany), (wI g m_tape 2 440 otf)]) (va_A [(wO12 mm i_thrown m_s m_spare m_kept m_undone m_triedWay m_isKept i_undoMany m_tape i_length i_size i_p i_at i_token i_number i_letterMany i_fault i_faultAt m_letters i_isKnown m_choice m_row m_up m_low m_m m_bestUp m_bestLow m_replyUp m_replyLow m_worthUp m_worthLow m_bestWay i_seed m_told i_toldMany), (wI g m_tape 2 440 tf)] sz)) 0 0 (va_A [(wO12 mm i_thrown m_s m_spare m_kept m_undone m_triedWay m_isKept i_undoMany m_tape i_length i_size i_p i_at i_token i_number i_letterMany i_fault i_faultAt m_letters i_isKnown m_choice m_row m_up m_low m_m m_bestUp m_bestLow m_replyUp m_replyLow m_worthUp m_worthLow m_bestWay i_seed m_told i_toldMany), (wI g m_tape 2 440 tf)] sz) := by
  refine Met.ofW (cc := cX12_four) (maxL := 3) (ret := none) (by decide) rfl ?_
  intro p e s m args below meth c s₁ B hml hv
  obtain ⟨ha, hsz, hP, hK, hD0⟩ := hv
  have hx := B.exec
  have hb := B.bytes
  have hr := B.returns
  have hts0 := atoms_spec (ws := (.code yX12_four cX12_four 3 none :: wsL_law)) B.pre
  have hts : ∀ w ∈ wsL_law, w.before args s = true := fun w h => hts0 w (List.mem_cons_of_mem _ h)
  have hown : s.vm.findClass RX12 = some m.cls := findClass_of_methodNamed B.named
  have hlocks := B.notSynchronized
  subst hsz
  have hD := hD0.self (sz := s.heap.size)
  generalize hAe : va_A [(wO12 mm i_thrown m_s m_spare m_kept m_undone m_triedWay m_isKept i_undoMany m_tape i_length i_size i_p i_at i_token i_number i_letterMany i_fault i_faultAt m_letters i_isKnown m_choice m_row m_up m_low m_m m_bestUp m_bestLow m_replyUp m_replyLow m_worthUp m_worthLow m_bestWay i_seed m_told i_toldMany), (wI g m_tape 2 440 tf)] s.heap.size = A at hD ⊢
  have hA : ∀ q : Nat, s.heap.size ≤ q → A q := fun q h => by rw [← hAe]; exact Or.inr h
  have hS : va_S A s.heap s.heap [] := va_S.rf
  have hP : va_P D vwCl [(wO12 mm i_thrown m_s m_spare m_kept m_undone m_triedWay m_isKept i_undoMany m_tape i_length i_size i_p i_at i_token i_number i_letterMany i_fault i_faultAt m_letters i_isKnown m_choice m_row m_up m_low m_m m_bestUp m_bestLow m_replyUp m_replyLow m_worthUp m_worthLow m_bestWay i_seed m_told i_toldMany), (wI g m_tape 2 440 tf)] s.heap := hP
  refine W.eq (g2 := entryFrame m ([.ref mm, .int p0] : List Value).toArray 3) (by rw [ha]) ?_
  have hl := lv_entry ([.ref mm, .int p0]) (n := 3) (Nat.le_of_ble_eq_true rfl)
  rw [lg_entry_eq]
  generalize (lg_sl ([.ref mm, .int p0]) ++ List.replicate (3 - (lg_sl ([.ref mm, .int p0])).length) Slot.unset).toArray = ls at hl ⊢
  have hl : lv_has ls 3 [(0, .ref mm), (1, .int p0)] := hl
  refine lv_bipush (v := 24) hx hb dX12_four_0 (by decide) ?_
  refine lv_istore_n (lv' := [(2, .int 24), (0, .ref mm), (1, .int p0)]) hx hb dX12_four_2 rfl hl (by decide) rfl (fun ls hl => ?_)
  refine lv_iload_n hx hb dX12_four_3 rfl (lv_at hl 0 rfl) ?_
  refine lv_if_lt (tgt := 36) hx hb dX12_four_4 (by decide) (fun h9 => absurd h9 (by decide)) (fun _ => ?_)
  refine lv_aload_n hx hb dX12_four_7 rfl (lv_at hl 1 rfl) ?_
  refine va_get (D := D) (ci := 12) (v := .ref m_tape) (C := RX12) (T := TX12) (N := 35) hx hb hts inlX12 hown hK hP 0 rfl rfl 8 (by decide) (hts (Cond.fieldLink RX12 33 "ChanceRingsModel" "tape" "[B") qw_5) (fun _ h9 => h9) rfl dX12_four_8 ?_
  refine lv_aload_n hx hb dX12_four_11 rfl (lv_at hl 1 rfl) ?_
  refine va_get (D := D) (ci := 12) (v := .int i_length) (C := RX12) (T := TX12) (N := 35) hx hb hts inlX12 hown hK hP 0 rfl rfl 9 (by decide) (hts (Cond.fieldLink RX12 82 "ChanceRingsModel" "length" "I") qw_6) (fun _ h9 => h9) rfl dX12_four_12 ?_
  refine lv_iload_n hx hb dX12_four_15 rfl (lv_at hl 2 rfl) ?_
  refine lv_iload_n hx hb dX12_four_16 rfl (lv_at hl 0 rfl) ?_
  refine lv_ishr hx hb dX12_four_17 ?_
  refine lv_topi (fun v_58964 v_58964_e => ?_)
  refine lv_i2b (v := (v_58964).toInt8.toInt32) hx hb dX12_four_18 rfl ?_
  refine va_bast hx hb hK hP hD hS 1 2 rfl rfl (tr_in h_i_length (by decide) (by decide)) dX12_four_19 (fun H locs hP hD hS => ?_)
  obtain ⟨f_58965, f_58965_e, h_f_58965, hP, hD⟩ : ∃ FX : Nat → Int32, FX = (upd tf (i_length : Int32).toNatClampNeg (vp_nar .byte ((v_58964).toInt8.toInt32))) ∧ (∀ j : Nat, (-128) ≤ (FX j).toInt ∧ (FX j).toInt ≤ 127) ∧ va_P D vwCl [(wO12 mm i_thrown m_s m_spare m_kept m_undone m_triedWay m_isKept i_undoMany m_tape i_length i_size i_p i_at i_token i_number i_letterMany i_fault i_faultAt m_letters i_isKnown m_choice m_row m_up m_low m_m m_bestUp m_bestLow m_replyUp m_replyLow m_worthUp m_worthLow m_bestWay i_seed m_told i_toldMany), (wI g m_tape 2 440 FX)] H ∧ va_D A [(wO12 mm i_thrown m_s m_spare m_kept m_undone m_triedWay m_isKept i_undoMany m_tape i_length i_size i_p i_at i_token i_number i_letterMany i_fault i_faultAt m_letters i_isKnown m_choice m_row m_up m_low m_m m_bestUp m_bestLow m_replyUp m_replyLow m_worthUp m_worthLow m_bestWay i_seed m_told i_toldMany), (wI g m_tape 2 440 FX)] := ⟨_, rfl, tr_updB h_tf, hP, hD⟩
  have hP : va_P D vwCl [(wO12 mm i_thrown m_s m_spare m_kept m_undone m_triedWay m_isKept i_undoMany m_tape i_length i_size i_p i_at i_token i_number i_letterMany i_fault i_faultAt m_letters i_isKnown m_choice m_row m_up m_low m_m m_bestUp m_bestLow m_replyUp m_replyLow m_worthUp m_worthLow m_bestWay i_seed m_told i_toldMany), (wI g m_tape 2 440 f_58965)] H := hP
  have hD : va_D A [(wO12 mm i_thrown m_s m_spare m_kept m_undone m_triedWay m_isKept i_undoMany m_tape i_length i_size i_p i_at i_token i_number i_letterMany i_fault i_faultAt m_letters i_isKnown m_choice m_row m_up m_low m_m m_bestUp m_bestLow m_replyUp m_replyLow m_worthUp m_worthLow m_bestWay i_seed m_told i_toldMany), (wI g m_tape 2 440 f_58965)] := hD
  refine lv_aload_n hx hb dX12_four_20 rfl (lv_at hl 1 rfl) ?_
  refine lv_dup hx hb dX12_four_21 rfl ?_
  refine va_get (D := D) (ci := 12) (v := .int i_length) (C := RX12) (T := TX12) (N := 35) hx hb hts inlX12 hown hK hP 0 rfl rfl 9 (by decide) (hts (Cond.fieldLink RX12 82 "ChanceRingsModel" "length" "I") qw_6) (fun _ h9 => h9) rfl dX12_four_22 ?_
  refine lv_iconst (v := 1) hx hb dX12_four_25 (by decide) ?_
  refine lv_iadd hx hb dX12_four_26 ?_
  refine lv_topi (fun v_58966 v_58966_e => ?_)
  have h_v_58966 : 1 ≤ (v_58966 : Int32).toInt ∧ (v_58966 : Int32).toInt ≤ 437 := by rw [v_58966_e]; exact tr_add h_i_length (⟨by decide, by decide⟩ : 1 ≤ (1 : Int32).toInt ∧ (1 : Int32).toInt ≤ 1) (by decide) (by decide) (by decide) (by decide)
  have q_v_58966 : v_58966.toInt = i_length.toInt + 1 := by rw [v_58966_e]; exact tr_addE h_i_length (⟨by decide, by decide⟩ : 1 ≤ (1 : Int32).toInt ∧ (1 : Int32).toInt ≤ 1) (by decide) (by decide)
  refine va_put (D := D) (ci := 12) (v := .int v_58966) (ty := .int) (C := RX12) (T := TX12) (N := 35) hx hb hts inlX12 tyX12 tyX12_ok nmX12 hown hK hP hD hS 0 rfl rfl 9 (by decide) (hts (Cond.fieldLink RX12 82 "ChanceRingsModel" "length" "I") qw_6) (fun _ h9 => h9) rfl (by decide +kernel) rfl rfl (Nat.le_of_ble_eq_true rfl) dX12_four_27 (fun H locs hP hD hS => ?_)
  have hP : va_P D vwCl [(wO12 mm i_thrown m_s m_spare m_kept m_undone m_triedWay m_isKept i_undoMany m_tape v_58966 i_size i_p i_at i_token i_number i_letterMany i_fault i_faultAt m_letters i_isKnown m_choice m_row m_up m_low m_m m_bestUp m_bestLow m_replyUp m_replyLow m_worthUp m_worthLow m_bestWay i_seed m_told i_toldMany), (wI g m_tape 2 440 f_58965)] H := hP
  have hD : va_D A [(wO12 mm i_thrown m_s m_spare m_kept m_undone m_triedWay m_isKept i_undoMany m_tape v_58966 i_size i_p i_at i_token i_number i_letterMany i_fault i_faultAt m_letters i_isKnown m_choice m_row m_up m_low m_m m_bestUp m_bestLow m_replyUp m_replyLow m_worthUp m_worthLow m_bestWay i_seed m_told i_toldMany), (wI g m_tape 2 440 f_58965)] := hD
  refine lv_iinc (v := 16) (lv' := [(2, .int 16), (0, .ref mm), (1, .int p0)]) hx hb dX12_four_30 hl (k := 0) rfl (by decide) (by decide) rfl (fun ls hl => ?_)
  refine lv_goto (tgt := 3) hx hb dX12_four_33 (by decide) ?_
  refine lv_iload_n hx hb dX12_four_3 rfl (lv_at hl 0 rfl) ?_
  refine lv_if_lt (tgt := 36) hx hb dX12_four_4 (by decide) (fun h9 => absurd h9 (by decide)) (fun _ => ?_)
  refine lv_aload_n hx hb dX12_four_7 rfl (lv_at hl 1 rfl) ?_
  refine va_get (D := D) (ci := 12) (v := .ref m_tape) (C := RX12) (T := TX12) (N := 35) hx hb hts inlX12 hown hK hP 0 rfl rfl 8 (by decide) (hts (Cond.fieldLink RX12 33 "ChanceRingsModel" "tape" "[B") qw_5) (fun _ h9 => h9) rfl dX12_four_8 ?_
  refine lv_aload_n hx hb dX12_four_11 rfl (lv_at hl 1 rfl) ?_
  refine va_get (D := D) (ci := 12) (v := .int v_58966) (C := RX12) (T := TX12) (N := 35) hx hb hts inlX12 hown hK hP 0 rfl rfl 9 (by decide) (hts (Cond.fieldLink RX12 82 "ChanceRingsModel" "length" "I") qw_6) (fun _ h9 => h9) rfl dX12_four_12 ?_
  refine lv_iload_n hx hb dX12_four_15 rfl (lv_at hl 2 rfl) ?_
  refine lv_iload_n hx hb dX12_four_16 rfl (lv_at hl 0 rfl) ?_
  refine lv_ishr hx hb dX12_four_17 ?_
  refine lv_topi (fun v_58967 v_58967_e => ?_)
  refine lv_i2b (v := (v_58967).toInt8.toInt32) hx hb dX12_four_18 rfl ?_
  refine va_bast hx hb hK hP hD hS 1 2 rfl rfl (tr_in h_v_58966 (by decide) (by decide)) dX12_four_19 (fun H locs hP hD hS => ?_)
  obtain ⟨f_58968, f_58968_e, h_f_58968, hP, hD⟩ : ∃ FX : Nat → Int32, FX = (upd f_58965 (v_58966 : Int32).toNatClampNeg (vp_nar .byte ((v_58967).toInt8.toInt32))) ∧ (∀ j : Nat, (-128) ≤ (FX j).toInt ∧ (FX j).toInt ≤ 127) ∧ va_P D vwCl [(wO12 mm i_thrown m_s m_spare m_kept m_undone m_triedWay m_isKept i_undoMany m_tape v_58966 i_size i_p i_at i_token i_number i_letterMany i_fault i_faultAt m_letters i_isKnown m_choice m_row m_up m_low m_m m_bestUp m_bestLow m_replyUp m_replyLow m_worthUp m_worthLow m_bestWay i_seed m_told i_toldMany), (wI g m_tape 2 440 FX)] H ∧ va_D A [(wO12 mm i_thrown m_s m_spare m_kept m_undone m_triedWay m_isKept i_undoMany m_tape v_58966 i_size i_p i_at i_token i_number i_letterMany i_fault i_faultAt m_letters i_isKnown m_choice m_row m_up m_low m_m m_bestUp m_bestLow m_replyUp m_replyLow m_worthUp m_worthLow m_bestWay i_seed m_told i_toldMany), (wI g m_tape 2 440 FX)] := ⟨_, rfl, tr_updB h_f_58965, hP, hD⟩
  have hP : va_P D vwCl [(wO12 mm i_thrown m_s m_spare m_kept m_undone m_triedWay m_isKept i_undoMany m_tape v_58966 i_size i_p i_at i_token i_number i_letterMany i_fault i_faultAt m_letters i_isKnown m_choice m_row m_up m_low m_m m_bestUp m_bestLow m_replyUp m_replyLow m_worthUp m_worthLow m_bestWay i_seed m_told i_toldMany), (wI g m_tape 2 440 f_58968)] H := hP
  have hD : va_D A [(wO12 mm i_thrown m_s m_spare m_kept m_undone m_triedWay m_isKept i_undoMany m_tape v_58966 i_size i_p i_at i_token i_number i_letterMany i_fault i_faultAt m_letters i_isKnown m_choice m_row m_up m_low m_m m_bestUp m_bestLow m_replyUp m_replyLow m_worthUp m_worthLow m_bestWay i_seed m_told i_toldMany), (wI g m_tape 2 440 f_58968)] := hD
  refine lv_aload_n hx hb dX12_four_20 rfl (lv_at hl 1 rfl) ?_
  refine lv_dup hx hb dX12_four_21 rfl ?_
  refine va_get (D := D) (ci := 12) (v := .int v_58966) (C := RX12) (T := TX12) (N := 35) hx hb hts inlX12 hown hK hP 0 rfl rfl 9 (by decide) (hts (Cond.fieldLink RX12 82 "ChanceRingsModel" "length" "I") qw_6) (fun _ h9 => h9) rfl dX12_four_22 ?_
  refine lv_iconst (v := 1) hx hb dX12_four_25 (by decide) ?_
  refine lv_iadd hx hb dX12_four_26 ?_
  refine lv_topi (fun v_58969 v_58969_e => ?_)
  have h_v_58969 : 2 ≤ (v_58969 : Int32).toInt ∧ (v_58969 : Int32).toInt ≤ 438 := by rw [v_58969_e]; exact tr_add h_v_58966 (⟨by decide, by decide⟩ : 1 ≤ (1 : Int32).toInt ∧ (1 : Int32).toInt ≤ 1) (by decide) (by decide) (by decide) (by decide)
  have q_v_58969 : v_58969.toInt = v_58966.toInt + 1 := by rw [v_58969_e]; exact tr_addE h_v_58966 (⟨by decide, by decide⟩ : 1 ≤ (1 : Int32).toInt ∧ (1 : Int32).toInt ≤ 1) (by decide) (by decide)
  refine va_put (D := D) (ci := 12) (v := .int v_58969) (ty := .int) (C := RX12) (T := TX12) (N := 35) hx hb hts inlX12 tyX12 tyX12_ok nmX12 hown hK hP hD hS 0 rfl rfl 9 (by decide) (hts (Cond.fieldLink RX12 82 "ChanceRingsModel" "length" "I") qw_6) (fun _ h9 => h9) rfl (by decide +kernel) rfl rfl (Nat.le_of_ble_eq_true rfl) dX12_four_27 (fun H locs hP hD hS => ?_)
  have hP : va_P D vwCl [(wO12 mm i_thrown m_s m_spare m_kept m_undone m_triedWay m_isKept i_undoMany m_tape v_58969 i_size i_p i_at i_token i_number i_letterMany i_fault i_faultAt m_letters i_isKnown m_choice m_row m_up m_low m_m m_bestUp m_bestLow m_replyUp m_replyLow m_worthUp m_worthLow m_bestWay i_seed m_told i_toldMany), (wI g m_tape 2 440 f_58968)] H := hP
  have hD : va_D A [(wO12 mm i_thrown m_s m_spare m_kept m_undone m_triedWay m_isKept i_undoMany m_tape v_58969 i_size i_p i_at i_token i_number i_letterMany i_fault i_faultAt m_letters i_isKnown m_choice m_row m_up m_low m_m m_bestUp m_bestLow m_replyUp m_replyLow m_worthUp m_worthLow m_bestWay i_seed m_told i_toldMany), (wI g m_tape 2 440 f_58968)] := hD
  refine lv_iinc (v := 8) (lv' := [(2, .int 8), (0, .ref mm), (1, .int p0)]) hx hb dX12_four_30 hl (k := 0) rfl (by decide) (by decide) rfl (fun ls hl => ?_)
  refine lv_goto (tgt := 3) hx hb dX12_four_33 (by decide) ?_
  refine lv_iload_n hx hb dX12_four_3 rfl (lv_at hl 0 rfl) ?_
  refine lv_if_lt (tgt := 36) hx hb dX12_four_4 (by decide) (fun h9 => absurd h9 (by decide)) (fun _ => ?_)
  refine lv_aload_n hx hb dX12_four_7 rfl (lv_at hl 1 rfl) ?_
  refine va_get (D := D) (ci := 12) (v := .ref m_tape) (C := RX12) (T := TX12) (N := 35) hx hb hts inlX12 hown hK hP 0 rfl rfl 8 (by decide) (hts (Cond.fieldLink RX12 33 "ChanceRingsModel" "tape" "[B") qw_5) (fun _ h9 => h9) rfl dX12_four_8 ?_
  refine lv_aload_n hx hb dX12_four_11 rfl (lv_at hl 1 rfl) ?_
  refine va_get (D := D) (ci := 12) (v := .int v_58969) (C := RX12) (T := TX12) (N := 35) hx hb hts inlX12 hown hK hP 0 rfl rfl 9 (by decide) (hts (Cond.fieldLink RX12 82 "ChanceRingsModel" "length" "I") qw_6) (fun _ h9 => h9) rfl dX12_four_12 ?_
  refine lv_iload_n hx hb dX12_four_15 rfl (lv_at hl 2 rfl) ?_
  refine lv_iload_n hx hb dX12_four_16 rfl (lv_at hl 0 rfl) ?_
  refine lv_ishr hx hb dX12_four_17 ?_
  refine lv_topi (fun v_58970 v_58970_e => ?_)
  refine lv_i2b (v := (v_58970).toInt8.toInt32) hx hb dX12_four_18 rfl ?_
  refine va_bast hx hb hK hP hD hS 1 2 rfl rfl (tr_in h_v_58969 (by decide) (by decide)) dX12_four_19 (fun H locs hP hD hS => ?_)
  obtain ⟨f_58971, f_58971_e, h_f_58971, hP, hD⟩ : ∃ FX : Nat → Int32, FX = (upd f_58968 (v_58969 : Int32).toNatClampNeg (vp_nar .byte ((v_58970).toInt8.toInt32))) ∧ (∀ j : Nat, (-128) ≤ (FX j).toInt ∧ (FX j).toInt ≤ 127) ∧ va_P D vwCl [(wO12 mm i_thrown m_s m_spare m_kept m_undone m_triedWay m_isKept i_undoMany m_tape v_58969 i_size i_p i_at i_token i_number i_letterMany i_fault i_faultAt m_letters i_isKnown m_choice m_row m_up m_low m_m m_bestUp m_bestLow m_replyUp m_replyLow m_worthUp m_worthLow m_bestWay i_seed m_told i_toldMany), (wI g m_tape 2 440 FX)] H ∧ va_D A [(wO12 mm i_thrown m_s m_spare m_kept m_undone m_triedWay m_isKept i_undoMany m_tape v_58969 i_size i_p i_at i_token i_number i_letterMany i_fault i_faultAt m_letters i_isKnown m_choice m_row m_up m_low m_m m_bestUp m_bestLow m_replyUp m_replyLow m_worthUp m_worthLow m_bestWay i_seed m_told i_toldMany), (wI g m_tape 2 440 FX)] := ⟨_, rfl, tr_updB h_f_58968, hP, hD⟩
  have hP : va_P D vwCl [(wO12 mm i_thrown m_s m_spare m_kept m_undone m_triedWay m_isKept i_undoMany m_tape v_58969 i_size i_p i_at i_token i_number i_letterMany i_fault i_faultAt m_letters i_isKnown m_choice m_row m_up m_low m_m m_bestUp m_bestLow m_replyUp m_replyLow m_worthUp m_worthLow m_bestWay i_seed m_told i_toldMany), (wI g m_tape 2 440 f_58971)] H := hP
  have hD : va_D A [(wO12 mm i_thrown m_s m_spare m_kept m_undone m_triedWay m_isKept i_undoMany m_tape v_58969 i_size i_p i_at i_token i_number i_letterMany i_fault i_faultAt m_letters i_isKnown m_choice m_row m_up m_low m_m m_bestUp m_bestLow m_replyUp m_replyLow m_worthUp m_worthLow m_bestWay i_seed m_told i_toldMany), (wI g m_tape 2 440 f_58971)] := hD
  refine lv_aload_n hx hb dX12_four_20 rfl (lv_at hl 1 rfl) ?_
  refine lv_dup hx hb dX12_four_21 rfl ?_
  refine va_get (D := D) (ci := 12) (v := .int v_58969) (C := RX12) (T := TX12) (N := 35) hx hb hts inlX12 hown hK hP 0 rfl rfl 9 (by decide) (hts (Cond.fieldLink RX12 82 "ChanceRingsModel" "length" "I") qw_6) (fun _ h9 => h9) rfl dX12_four_22 ?_
  refine lv_iconst (v := 1) hx hb dX12_four_25 (by decide) ?_
  refine lv_iadd hx hb dX12_four_26 ?_
  refine lv_topi (fun v_58972 v_58972_e => ?_)
  have h_v_58972 : 3 ≤ (v_58972 : Int32).toInt ∧ (v_58972 : Int32).toInt ≤ 439 := by rw [v_58972_e]; exact tr_add h_v_58969 (⟨by decide, by decide⟩ : 1 ≤ (1 : Int32).toInt ∧ (1 : Int32).toInt ≤ 1) (by decide) (by decide) (by decide) (by decide)
  have q_v_58972 : v_58972.toInt = v_58969.toInt + 1 := by rw [v_58972_e]; exact tr_addE h_v_58969 (⟨by decide, by decide⟩ : 1 ≤ (1 : Int32).toInt ∧ (1 : Int32).toInt ≤ 1) (by decide) (by decide)
  refine va_put (D := D) (ci := 12) (v := .int v_58972) (ty := .int) (C := RX12) (T := TX12) (N := 35) hx hb hts inlX12 tyX12 tyX12_ok nmX12 hown hK hP hD hS 0 rfl rfl 9 (by decide) (hts (Cond.fieldLink RX12 82 "ChanceRingsModel" "length" "I") qw_6) (fun _ h9 => h9) rfl (by decide +kernel) rfl rfl (Nat.le_of_ble_eq_true rfl) dX12_four_27 (fun H locs hP hD hS => ?_)
  have hP : va_P D vwCl [(wO12 mm i_thrown m_s m_spare m_kept m_undone m_triedWay m_isKept i_undoMany m_tape v_58972 i_size i_p i_at i_token i_number i_letterMany i_fault i_faultAt m_letters i_isKnown m_choice m_row m_up m_low m_m m_bestUp m_bestLow m_replyUp m_replyLow m_worthUp m_worthLow m_bestWay i_seed m_told i_toldMany), (wI g m_tape 2 440 f_58971)] H := hP
  have hD : va_D A [(wO12 mm i_thrown m_s m_spare m_kept m_undone m_triedWay m_isKept i_undoMany m_tape v_58972 i_size i_p i_at i_token i_number i_letterMany i_fault i_faultAt m_letters i_isKnown m_choice m_row m_up m_low m_m m_bestUp m_bestLow m_replyUp m_replyLow m_worthUp m_worthLow m_bestWay i_seed m_told i_toldMany), (wI g m_tape 2 440 f_58971)] := hD
  refine lv_iinc (v := 0) (lv' := [(2, .int 0), (0, .ref mm), (1, .int p0)]) hx hb dX12_four_30 hl (k := 0) rfl (by decide) (by decide) rfl (fun ls hl => ?_)
  refine lv_goto (tgt := 3) hx hb dX12_four_33 (by decide) ?_
  refine lv_iload_n hx hb dX12_four_3 rfl (lv_at hl 0 rfl) ?_
  refine lv_if_lt (tgt := 36) hx hb dX12_four_4 (by decide) (fun h9 => absurd h9 (by decide)) (fun _ => ?_)
  refine lv_aload_n hx hb dX12_four_7 rfl (lv_at hl 1 rfl) ?_
  refine va_get (D := D) (ci := 12) (v := .ref m_tape) (C := RX12) (T := TX12) (N := 35) hx hb hts inlX12 hown hK hP 0 rfl rfl 8 (by decide) (hts (Cond.fieldLink RX12 33 "ChanceRingsModel" "tape" "[B") qw_5) (fun _ h9 => h9) rfl dX12_four_8 ?_
  refine lv_aload_n hx hb dX12_four_11 rfl (lv_at hl 1 rfl) ?_
  refine va_get (D := D) (ci := 12) (v := .int v_58972) (C := RX12) (T := TX12) (N := 35) hx hb hts inlX12 hown hK hP 0 rfl rfl 9 (by decide) (hts (Cond.fieldLink RX12 82 "ChanceRingsModel" "length" "I") qw_6) (fun _ h9 => h9) rfl dX12_four_12 ?_
  refine lv_iload_n hx hb dX12_four_15 rfl (lv_at hl 2 rfl) ?_
  refine lv_iload_n hx hb dX12_four_16 rfl (lv_at hl 0 rfl) ?_
  refine lv_ishr hx hb dX12_four_17 ?_
  refine lv_topi (fun v_58973 v_58973_e => ?_)
  refine lv_i2b (v := (v_58973).toInt8.toInt32) hx hb dX12_four_18 rfl ?_
  refine va_bast hx hb hK hP hD hS 1 2 rfl rfl (tr_in h_v_58972 (by decide) (by decide)) dX12_four_19 (fun H locs hP hD hS => ?_)
  obtain ⟨f_58974, f_58974_e, h_f_58974, hP, hD⟩ : ∃ FX : Nat → Int32, FX = (upd f_58971 (v_58972 : Int32).toNatClampNeg (vp_nar .byte ((v_58973).toInt8.toInt32))) ∧ (∀ j : Nat, (-128) ≤ (FX j).toInt ∧ (FX j).toInt ≤ 127) ∧ va_P D vwCl [(wO12 mm i_thrown m_s m_spare m_kept m_undone m_triedWay m_isKept i_undoMany m_tape v_58972 i_size i_p i_at i_token i_number i_letterMany i_fault i_faultAt m_letters i_isKnown m_choice m_row m_up m_low m_m m_bestUp m_bestLow m_replyUp m_replyLow m_worthUp m_worthLow m_bestWay i_seed m_told i_toldMany), (wI g m_tape 2 440 FX)] H ∧ va_D A [(wO12 mm i_thrown m_s m_spare m_kept m_undone m_triedWay m_isKept i_undoMany m_tape v_58972 i_size i_p i_at i_token i_number i_letterMany i_fault i_faultAt m_letters i_isKnown m_choice m_row m_up m_low m_m m_bestUp m_bestLow m_replyUp m_replyLow m_worthUp m_worthLow m_bestWay i_seed m_told i_toldMany), (wI g m_tape 2 440 FX)] := ⟨_, rfl, tr_updB h_f_58971, hP, hD⟩
  have hP : va_P D vwCl [(wO12 mm i_thrown m_s m_spare m_kept m_undone m_triedWay m_isKept i_undoMany m_tape v_58972 i_size i_p i_at i_token i_number i_letterMany i_fault i_faultAt m_letters i_isKnown m_choice m_row m_up m_low m_m m_bestUp m_bestLow m_replyUp m_replyLow m_worthUp m_worthLow m_bestWay i_seed m_told i_toldMany), (wI g m_tape 2 440 f_58974)] H := hP
  have hD : va_D A [(wO12 mm i_thrown m_s m_spare m_kept m_undone m_triedWay m_isKept i_undoMany m_tape v_58972 i_size i_p i_at i_token i_number i_letterMany i_fault i_faultAt m_letters i_isKnown m_choice m_row m_up m_low m_m m_bestUp m_bestLow m_replyUp m_replyLow m_worthUp m_worthLow m_bestWay i_seed m_told i_toldMany), (wI g m_tape 2 440 f_58974)] := hD
  refine lv_aload_n hx hb dX12_four_20 rfl (lv_at hl 1 rfl) ?_
  refine lv_dup hx hb dX12_four_21 rfl ?_
  refine va_get (D := D) (ci := 12) (v := .int v_58972) (C := RX12) (T := TX12) (N := 35) hx hb hts inlX12 hown hK hP 0 rfl rfl 9 (by decide) (hts (Cond.fieldLink RX12 82 "ChanceRingsModel" "length" "I") qw_6) (fun _ h9 => h9) rfl dX12_four_22 ?_
  refine lv_iconst (v := 1) hx hb dX12_four_25 (by decide) ?_
  refine lv_iadd hx hb dX12_four_26 ?_
  refine lv_topi (fun v_58975 v_58975_e => ?_)
  have h_v_58975 : 4 ≤ (v_58975 : Int32).toInt ∧ (v_58975 : Int32).toInt ≤ 440 := by rw [v_58975_e]; exact tr_add h_v_58972 (⟨by decide, by decide⟩ : 1 ≤ (1 : Int32).toInt ∧ (1 : Int32).toInt ≤ 1) (by decide) (by decide) (by decide) (by decide)
  have q_v_58975 : v_58975.toInt = v_58972.toInt + 1 := by rw [v_58975_e]; exact tr_addE h_v_58972 (⟨by decide, by decide⟩ : 1 ≤ (1 : Int32).toInt ∧ (1 : Int32).toInt ≤ 1) (by decide) (by decide)
  refine va_put (D := D) (ci := 12) (v := .int v_58975) (ty := .int) (C := RX12) (T := TX12) (N := 35) hx hb hts inlX12 tyX12 tyX12_ok nmX12 hown hK hP hD hS 0 rfl rfl 9 (by decide) (hts (Cond.fieldLink RX12 82 "ChanceRingsModel" "length" "I") qw_6) (fun _ h9 => h9) rfl (by decide +kernel) rfl rfl (Nat.le_of_ble_eq_true rfl) dX12_four_27 (fun H locs hP hD hS => ?_)
  have hP : va_P D vwCl [(wO12 mm i_thrown m_s m_spare m_kept m_undone m_triedWay m_isKept i_undoMany m_tape v_58975 i_size i_p i_at i_token i_number i_letterMany i_fault i_faultAt m_letters i_isKnown m_choice m_row m_up m_low m_m m_bestUp m_bestLow m_replyUp m_replyLow m_worthUp m_worthLow m_bestWay i_seed m_told i_toldMany), (wI g m_tape 2 440 f_58974)] H := hP
  have hD : va_D A [(wO12 mm i_thrown m_s m_spare m_kept m_undone m_triedWay m_isKept i_undoMany m_tape v_58975 i_size i_p i_at i_token i_number i_letterMany i_fault i_faultAt m_letters i_isKnown m_choice m_row m_up m_low m_m m_bestUp m_bestLow m_replyUp m_replyLow m_worthUp m_worthLow m_bestWay i_seed m_told i_toldMany), (wI g m_tape 2 440 f_58974)] := hD
  refine lv_iinc (v := (-8)) (lv' := [(2, .int (-8)), (0, .ref mm), (1, .int p0)]) hx hb dX12_four_30 hl (k := 0) rfl (by decide) (by decide) rfl (fun ls hl => ?_)
  refine lv_goto (tgt := 3) hx hb dX12_four_33 (by decide) ?_
  refine lv_iload_n hx hb dX12_four_3 rfl (lv_at hl 0 rfl) ?_
  refine lv_if_lt (tgt := 36) hx hb dX12_four_4 (by decide) (fun _ => ?_) (fun h9 => (h9 (by decide)).elim)
  have hP9 := hP.sub (ws' := [(wO12 mm i_thrown m_s m_spare m_kept m_undone m_triedWay m_isKept i_undoMany m_tape v_58975 i_size i_p i_at i_token i_number i_letterMany i_fault i_faultAt m_letters i_isKnown m_choice m_row m_up m_low m_m m_bestUp m_bestLow m_replyUp m_replyLow m_worthUp m_worthLow m_bestWay i_seed m_told i_toldMany), (wI g m_tape 2 440 f_58974)]) [0, 1] rfl
  have hD9 := hD.sub (ws' := [(wO12 mm i_thrown m_s m_spare m_kept m_undone m_triedWay m_isKept i_undoMany m_tape v_58975 i_size i_p i_at i_token i_number i_letterMany i_fault i_faultAt m_letters i_isKnown m_choice m_row m_up m_low m_m m_bestUp m_bestLow m_replyUp m_replyLow m_worthUp m_worthLow m_bestWay i_seed m_told i_toldMany), (wI g m_tape 2 440 f_58974)]) [0, 1] (by decide) rfl
  exact W.vret hx hb hr (fun t ht hW => ⟨⟨(), rfl, trivial, v_58975, f_58974, (tr_w h_v_58975 (by decide) (by decide)), (tr_wa h_f_58974 (by decide) (by decide)), (by have z_0 := tk_0; have z_1 := tk_1; (first | (clear h_i_undoMany h_i_size h_i_p h_i_at h_i_token h_i_number h_i_letterMany h_i_faultAt h_i_isKnown h_i_toldMany h_f_58965 h_f_58968 h_f_58971; omega) | omega)), (ap4_of (i0 := (i_length : Int32).toNatClampNeg) (i1 := (v_58966 : Int32).toNatClampNeg) (i2 := (v_58969 : Int32).toNatClampNeg) (i3 := (v_58972 : Int32).toNatClampNeg) (by rw [f_58974_e, f_58971_e, f_58968_e, f_58965_e]) (by show Int.toNat _ = _; (first | (clear h_i_undoMany h_i_size h_i_p h_i_at h_i_token h_i_number h_i_letterMany h_i_faultAt h_i_isKnown h_i_toldMany h_f_58965 h_f_58968 h_f_58971; omega) | omega)) (by show Int.toNat _ = _; (first | (clear h_i_undoMany h_i_size h_i_p h_i_at h_i_token h_i_number h_i_letterMany h_i_faultAt h_i_isKnown h_i_toldMany h_f_58965 h_f_58968 h_f_58971; omega) | omega)) (by show Int.toNat _ = _; (first | (clear h_i_undoMany h_i_size h_i_p h_i_at h_i_token h_i_number h_i_letterMany h_i_faultAt h_i_isKnown h_i_toldMany h_f_58965 h_f_58968 h_f_58971; omega) | omega)) (by show Int.toNat _ = _; (first | (clear h_i_undoMany h_i_size h_i_p h_i_at h_i_token h_i_number h_i_letterMany h_i_faultAt h_i_isKnown h_i_toldMany h_f_58965 h_f_58968 h_f_58971; omega) | omega)) ((nar_mod _).trans ((i2b_mod _).trans (by have q9 := shr_int (s := 24) v_58964_e (by decide); (first | (clear h_i_undoMany h_i_size h_i_p h_i_at h_i_token h_i_number h_i_letterMany h_i_faultAt h_i_isKnown h_i_toldMany h_f_58965 h_f_58968 h_f_58971; omega) | omega)))) ((nar_mod _).trans ((i2b_mod _).trans (by have q9 := shr_int (s := 16) v_58967_e (by decide); (first | (clear h_i_undoMany h_i_size h_i_p h_i_at h_i_token h_i_number h_i_letterMany h_i_faultAt h_i_isKnown h_i_toldMany h_f_58965 h_f_58968 h_f_58971; omega) | omega)))) ((nar_mod _).trans ((i2b_mod _).trans (by have q9 := shr_int (s := 8) v_58970_e (by decide); (first | (clear h_i_undoMany h_i_size h_i_p h_i_at h_i_token h_i_number h_i_letterMany h_i_faultAt h_i_isKnown h_i_toldMany h_f_58965 h_f_58968 h_f_58971; omega) | omega)))) ((nar_mod _).trans ((i2b_mod _).trans (by have q9 := shr_int (s := 0) v_58973_e (by decide); (first | (clear h_i_undoMany h_i_size h_i_p h_i_at h_i_token h_i_number h_i_letterMany h_i_faultAt h_i_isKnown h_i_toldMany h_f_58965 h_f_58968 h_f_58971; omega) | omega))))), by rw [ht]; exact hP9, hD9⟩, hS.F ht⟩) hS.2.2 dX12_four_36
set_option maxHeartbeats 4000000 in
set_option maxRecDepth 100000 in
theorem c_X12_feed2 (l : Launch) (D : va_G) (g : Nat → ClassId) (sz : Nat) (mm : Nat) (p0 : Int32) (p1 : Int32) (p2 : Int32) (p3 : Int32) (p4 : Int32) (i_thrown : Int32) (m_s : Nat) (m_spare : Nat) (m_kept : Nat) (m_undone : Nat) (m_triedWay : Nat) (m_isKept : Nat) (i_undoMany : Int32) (m_tape : Nat) (i_length : Int32) (i_size : Int32) (i_p : Int32) (i_at : Int32) (i_token : Int32) (i_number : Int32) (i_letterMany : Int32) (i_fault : Int32) (i_faultAt : Int32) (m_letters : Nat) (i_isKnown : Int32) (m_choice : Nat) (m_row : Nat) (m_up : Nat) (m_low : Nat) (m_m : Nat) (m_bestUp : Nat) (m_bestLow : Nat) (m_replyUp : Nat) (m_replyLow : Nat) (m_worthUp : Nat) (m_worthLow : Nat) (m_bestWay : Nat) (i_seed : Int32) (m_told : Nat) (i_toldMany : Int32) (tf : Nat → Int32) (h_i_undoMany : 0 ≤ (i_undoMany : Int32).toInt ∧ (i_undoMany : Int32).toInt ≤ 8) (h_i_length : 0 ≤ (i_length : Int32).toInt ∧ (i_length : Int32).toInt ≤ 440) (h_i_size : 0 ≤ (i_size : Int32).toInt ∧ (i_size : Int32).toInt ≤ 440) (h_i_p : 0 ≤ (i_p : Int32).toInt ∧ (i_p : Int32).toInt ≤ 440) (h_i_at : 0 ≤ (i_at : Int32).toInt ∧ (i_at : Int32).toInt ≤ 440) (h_i_token : 0 ≤ (i_token : Int32).toInt ∧ (i_token : Int32).toInt ≤ 4) (h_i_number : 0 ≤ (i_number : Int32).toInt ∧ (i_number : Int32).toInt ≤ 814) (h_i_letterMany : (-440) ≤ (i_letterMany : Int32).toInt ∧ (i_letterMany : Int32).toInt ≤ 440) (h_i_faultAt : 0 ≤ (i_faultAt : Int32).toInt ∧ (i_faultAt : Int32).toInt ≤ 440) (h_i_isKnown : 0 ≤ (i_isKnown : Int32).toInt ∧ (i_isKnown : Int32).toInt ≤ 1) (h_i_toldMany : 0 ≤ (i_toldMany : Int32).toInt ∧ (i_toldMany : Int32).toInt ≤ 900) (h_tf : ∀ j : Nat, (-128) ≤ (tf j).toInt ∧ (tf j).toInt ≤ 127) : Met l yX12_feed (.code yX12_feed cX12_feed 6 (some .int) :: wsL_law) ({ frames := 1, cells := 0, slots := 0, locals := 22 }) (va_Pc [.ref mm, .int p0, .int p1, .int p2, .int p3, .int p4] (fun U => U.heap.size = sz ∧ va_P D vwCl [(wO12 mm i_thrown m_s m_spare m_kept m_undone m_triedWay m_isKept i_undoMany m_tape i_length i_size i_p i_at i_token i_number i_letterMany i_fault i_faultAt m_letters i_isKnown m_choice m_row m_up m_low m_m m_bestUp m_bestLow m_replyUp m_replyLow m_worthUp m_worthLow m_bestWay i_seed m_told i_toldMany), (wI g m_tape 2 440 tf)] U.heap ∧ va_K D vwCl (TY g) U ∧ va_D (fun _ => True) [(wO12 mm i_thrown m_s m_spare m_kept m_undone m_triedWay m_isKept i_undoMany m_tape i_length i_size i_p i_at i_token i_number i_letterMany i_fault i_faultAt m_letters i_isKnown m_choice m_row m_up m_low m_m m_bestUp m_bestLow m_replyUp m_replyLow m_worthUp m_worthLow m_bestWay i_seed m_told i_toldMany), (wI g m_tape 2 440 tf)])) (va_Qi (fun r (_ : Unit) => ((-1) ≤ (r : Int32).toInt ∧ (r : Int32).toInt ≤ 440) ∧ (((i_length : Int32).toInt ≤ 420 → (r : Int32).toInt = (i_length : Int32).toInt + 20) ∧ (420 < (i_length : Int32).toInt → (r : Int32).toInt = -1))) (fun _ t => ∃ o_thrown : Int32, ∃ o_length : Int32, ∃ otf : Nat → Int32, (0 ≤ (o_length : Int32).toInt ∧ (o_length : Int32).toInt ≤ 440) ∧ (∀ j : Nat, (-128) ≤ (otf j).toInt ∧ (otf j).toInt ≤ 127) ∧ (((i_length : Int32).toInt ≤ 420 → (o_length : Int32).toInt = (i_length : Int32).toInt + 20) ∧ (420 < (i_length : Int32).toInt → (o_length : Int32).toInt = (i_length : Int32).toInt)) ∧ (((i_length : Int32).toInt ≤ 420 → AP20 tf otf (i_length : Int32).toInt.toNat p0 p1 p2 p3 p4) ∧ (420 < (i_length : Int32).toInt → otf = tf)) ∧ va_P D vwCl [(wO12 mm o_thrown m_s m_spare m_kept m_undone m_triedWay m_isKept i_undoMany m_tape o_length i_size i_p i_at i_token i_number i_letterMany i_fault i_faultAt m_letters i_isKnown m_choice m_row m_up m_low m_m m_bestUp m_bestLow m_replyUp m_replyLow m_worthUp m_worthLow m_bestWay i_seed m_told i_toldMany), (wI g m_tape 2 440 otf)] t.heap ∧ va_D (va_A [(wO12 mm i_thrown m_s m_spare m_kept m_undone m_triedWay m_isKept i_undoMany m_tape i_length i_size i_p i_at i_token i_number i_letterMany i_fault i_faultAt m_letters i_isKnown m_choice m_row m_up m_low m_m m_bestUp m_bestLow m_replyUp m_replyLow m_worthUp m_worthLow m_bestWay i_seed m_told i_toldMany), (wI g m_tape 2 440 tf)] sz) [(wO12 mm o_thrown m_s m_spare m_kept m_undone m_triedWay m_isKept i_undoMany m_tape o_length i_size i_p i_at i_token i_number i_letterMany i_fault i_faultAt m_letters i_isKnown m_choice m_row m_up m_low m_m m_bestUp m_bestLow m_replyUp m_replyLow m_worthUp m_worthLow m_bestWay i_seed m_told i_toldMany), (wI g m_tape 2 440 otf)]) (va_A [(wO12 mm i_thrown m_s m_spare m_kept m_undone m_triedWay m_isKept i_undoMany m_tape i_length i_size i_p i_at i_token i_number i_letterMany i_fault i_faultAt m_letters i_isKnown m_choice m_row m_up m_low m_m m_bestUp m_bestLow m_replyUp m_replyLow m_worthUp m_worthLow m_bestWay i_seed m_told i_toldMany), (wI g m_tape 2 440 tf)] sz)) 0 0 (va_A [(wO12 mm i_thrown m_s m_spare m_kept m_undone m_triedWay m_isKept i_undoMany m_tape i_length i_size i_p i_at i_token i_number i_letterMany i_fault i_faultAt m_letters i_isKnown m_choice m_row m_up m_low m_m m_bestUp m_bestLow m_replyUp m_replyLow m_worthUp m_worthLow m_bestWay i_seed m_told i_toldMany), (wI g m_tape 2 440 tf)] sz) := by
  refine Met.ofW (cc := cX12_feed) (maxL := 6) (ret := (some .int)) (by decide) rfl ?_
  intro p e s m args below meth c s₁ B hml hv
  obtain ⟨ha, hsz, hP, hK, hD0⟩ := hv
  have hx := B.exec
  have hb := B.bytes
  have hr := B.returns
  have hts0 := atoms_spec (ws := (.code yX12_feed cX12_feed 6 (some .int) :: wsL_law)) B.pre
  have hts : ∀ w ∈ wsL_law, w.before args s = true := fun w h => hts0 w (List.mem_cons_of_mem _ h)
  have hown : s.vm.findClass RX12 = some m.cls := findClass_of_methodNamed B.named
  have hlocks := B.notSynchronized
  subst hsz
  have hD := hD0.self (sz := s.heap.size)
  generalize hAe : va_A [(wO12 mm i_thrown m_s m_spare m_kept m_undone m_triedWay m_isKept i_undoMany m_tape i_length i_size i_p i_at i_token i_number i_letterMany i_fault i_faultAt m_letters i_isKnown m_choice m_row m_up m_low m_m m_bestUp m_bestLow m_replyUp m_replyLow m_worthUp m_worthLow m_bestWay i_seed m_told i_toldMany), (wI g m_tape 2 440 tf)] s.heap.size = A at hD ⊢
  have hA : ∀ q : Nat, s.heap.size ≤ q → A q := fun q h => by rw [← hAe]; exact Or.inr h
  have hS : va_S A s.heap s.heap [] := va_S.rf
  have hP : va_P D vwCl [(wO12 mm i_thrown m_s m_spare m_kept m_undone m_triedWay m_isKept i_undoMany m_tape i_length i_size i_p i_at i_token i_number i_letterMany i_fault i_faultAt m_letters i_isKnown m_choice m_row m_up m_low m_m m_bestUp m_bestLow m_replyUp m_replyLow m_worthUp m_worthLow m_bestWay i_seed m_told i_toldMany), (wI g m_tape 2 440 tf)] s.heap := hP
  refine W.eq (g2 := entryFrame m ([.ref mm, .int p0, .int p1, .int p2, .int p3, .int p4] : List Value).toArray 6) (by rw [ha]) ?_
  have hl := lv_entry ([.ref mm, .int p0, .int p1, .int p2, .int p3, .int p4]) (n := 6) (Nat.le_of_ble_eq_true rfl)
  rw [lg_entry_eq]
  generalize (lg_sl ([.ref mm, .int p0, .int p1, .int p2, .int p3, .int p4]) ++ List.replicate (6 - (lg_sl ([.ref mm, .int p0, .int p1, .int p2, .int p3, .int p4])).length) Slot.unset).toArray = ls at hl ⊢
  have hl : lv_has ls 6 [(0, .ref mm), (1, .int p0), (2, .int p1), (3, .int p2), (4, .int p3), (5, .int p4)] := hl
  refine lv_aload_n hx hb dX12_feed_0 rfl (lv_at hl 0 rfl) ?_
  refine lv_iconst (v := 0) hx hb dX12_feed_1 (by decide) ?_
  refine va_put (D := D) (ci := 12) (v := .int 0) (ty := .int) (C := RX12) (T := TX12) (N := 35) hx hb hts inlX12 tyX12 tyX12_ok nmX12 hown hK hP hD hS 0 rfl rfl 0 (by decide) (hts (Cond.fieldLink RX12 1 "ChanceRingsModel" "thrown" "I") qw_0) (fun _ h9 => h9) rfl (by decide +kernel) rfl rfl (Nat.le_of_ble_eq_true rfl) dX12_feed_2 (fun H locs hP hD hS => ?_)
  have hP : va_P D vwCl [(wO12 mm 0 m_s m_spare m_kept m_undone m_triedWay m_isKept i_undoMany m_tape i_length i_size i_p i_at i_token i_number i_letterMany i_fault i_faultAt m_letters i_isKnown m_choice m_row m_up m_low m_m m_bestUp m_bestLow m_replyUp m_replyLow m_worthUp m_worthLow m_bestWay i_seed m_told i_toldMany), (wI g m_tape 2 440 tf)] H := hP
  have hD : va_D A [(wO12 mm 0 m_s m_spare m_kept m_undone m_triedWay m_isKept i_undoMany m_tape i_length i_size i_p i_at i_token i_number i_letterMany i_fault i_faultAt m_letters i_isKnown m_choice m_row m_up m_low m_m m_bestUp m_bestLow m_replyUp m_replyLow m_worthUp m_worthLow m_bestWay i_seed m_told i_toldMany), (wI g m_tape 2 440 tf)] := hD
  refine lv_aload_n hx hb dX12_feed_5 rfl (lv_at hl 0 rfl) ?_
  refine va_get (D := D) (ci := 12) (v := .int i_length) (C := RX12) (T := TX12) (N := 35) hx hb hts inlX12 hown hK hP 0 rfl rfl 9 (by decide) (hts (Cond.fieldLink RX12 82 "ChanceRingsModel" "length" "I") qw_6) (fun _ h9 => h9) rfl dX12_feed_6 ?_
  refine lv_bipush (v := 20) hx hb dX12_feed_9 (by decide) ?_
  refine lv_iadd hx hb dX12_feed_11 ?_
  refine lv_topi (fun v_58976 v_58976_e => ?_)
  have h_v_58976 : 20 ≤ (v_58976 : Int32).toInt ∧ (v_58976 : Int32).toInt ≤ 460 := by rw [v_58976_e]; exact tr_add h_i_length (⟨by decide, by decide⟩ : 20 ≤ (20 : Int32).toInt ∧ (20 : Int32).toInt ≤ 20) (by decide) (by decide) (by decide) (by decide)
  have q_v_58976 : v_58976.toInt = i_length.toInt + 20 := by rw [v_58976_e]; exact tr_addE h_i_length (⟨by decide, by decide⟩ : 20 ≤ (20 : Int32).toInt ∧ (20 : Int32).toInt ≤ 20) (by decide) (by decide)
  refine lv_sipush (v := 440) hx hb dX12_feed_12 (by decide) ?_
  refine lv_icmp_le (tgt := 20) hx hb dX12_feed_15 (by decide) (fun c_58977 => ?_) (fun c_58977 => ?_)
  · skip
    have kk_440 := tk_440
    have c_58977_i := Int32.le_iff_toInt_le.mp c_58977
    have h_58978 : 20 ≤ (v_58976 : Int32).toInt ∧ (v_58976 : Int32).toInt ≤ 440 := nr_le_l h_v_58976 (⟨by decide, by decide⟩ : 440 ≤ (440 : Int32).toInt ∧ (440 : Int32).toInt ≤ 440) c_58977_i (by decide) (by decide)
    refine lv_aload_n hx hb dX12_feed_20 rfl (lv_at hl 0 rfl) ?_
    refine lv_iload_n hx hb dX12_feed_21 rfl (lv_at hl 1 rfl) ?_
    have h_58980 : 0 ≤ (i_length : Int32).toInt ∧ (i_length : Int32).toInt ≤ 436 := by (first | (clear h_i_undoMany h_i_size h_i_p h_i_at h_i_token h_i_number h_i_letterMany h_i_faultAt h_i_isKnown h_i_toldMany; omega) | omega)
    have hPc := hP.sub (ws' := [(wO12 mm 0 m_s m_spare m_kept m_undone m_triedWay m_isKept i_undoMany m_tape i_length i_size i_p i_at i_token i_number i_letterMany i_fault i_faultAt m_letters i_isKnown m_choice m_row m_up m_low m_m m_bestUp m_bestLow m_replyUp m_replyLow m_worthUp m_worthLow m_bestWay i_seed m_told i_toldMany), (wI g m_tape 2 440 tf)]) [0, 1] rfl
    have hDc := hD.sub (ws' := [(wO12 mm 0 m_s m_spare m_kept m_undone m_triedWay m_isKept i_undoMany m_tape i_length i_size i_p i_at i_token i_number i_letterMany i_fault i_faultAt m_letters i_isKnown m_choice m_row m_up m_low m_m m_bestUp m_bestLow m_replyUp m_replyLow m_worthUp m_worthLow m_bestWay i_seed m_told i_toldMany), (wI g m_tape 2 440 tf)]) [0, 1] (by decide) rfl
    have hFc := va_free (wc := [(wO12 mm 0 m_s m_spare m_kept m_undone m_triedWay m_isKept i_undoMany m_tape i_length i_size i_p i_at i_token i_number i_letterMany i_fault i_faultAt m_letters i_isKnown m_choice m_row m_up m_low m_m m_bestUp m_bestLow m_replyUp m_replyLow m_worthUp m_worthLow m_bestWay i_seed m_told i_toldMany), (wI g m_tape 2 440 tf)]) hD hS hA [0, 1] rfl
    refine va_callv (va_runV (As := [.int p0]) (rest := []) ⟨hx, hb, hml, hown, hts⟩ (c_X12_four2 l D g H.size mm p0 0 m_s m_spare m_kept m_undone m_triedWay m_isKept i_undoMany m_tape i_length i_size i_p i_at i_token i_number i_letterMany i_fault i_faultAt m_letters i_isKnown m_choice m_row m_up m_low m_m m_bestUp m_bestLow m_replyUp m_replyLow m_worthUp m_worthLow m_bestWay i_seed m_told i_toldMany tf (tr_w h_i_undoMany (by decide) (by decide)) (tr_w h_58980 (by decide) (by decide)) (tr_w h_i_size (by decide) (by decide)) (tr_w h_i_p (by decide) (by decide)) (tr_w h_i_at (by decide) (by decide)) (tr_w h_i_token (by decide) (by decide)) (tr_w h_i_number (by decide) (by decide)) (tr_w h_i_letterMany (by decide) (by decide)) (tr_w h_i_faultAt (by decide) (by decide)) (tr_w h_i_isKnown (by decide) (by decide)) (tr_w h_i_toldMany (by decide) (by decide)) (tr_wa h_tf (by decide) (by decide))) (cwV 1 hts (tz_gV qw_7 qw_8 qw_9 qw_3 qw_10) rfl rfl rfl (by decide +kernel) ⟨Nat.le_of_ble_eq_true rfl, Nat.le_of_ble_eq_true rfl⟩) ⟨tz_blQ, va_recv hK hPc (ci := 12) (q0 := 0) rfl rfl, tz_preQ hPc hK hDc⟩ rfl rfl hl.1 rfl (lv_room (Nat.le_of_ble_eq_true rfl)) dX12_feed_22 ⟨Nat.le_of_ble_eq_true rfl, Nat.le_of_ble_eq_true rfl⟩) hS (fun q _ h => hFc q h) hFc (fun u t H1 locs ht hvm hw hB hz1 hk1 hS => ?_)
    obtain ⟨o_length_58982, otf_58983, hf_58984, hf_58985, hf_58986, hf_58987, hP1, hD1⟩ := hB
    rw [ht] at hP1
    obtain ⟨hP, hD⟩ := va_join (wr := []) (w1 := [(wO12 mm 0 m_s m_spare m_kept m_undone m_triedWay m_isKept i_undoMany m_tape o_length_58982 i_size i_p i_at i_token i_number i_letterMany i_fault i_faultAt m_letters i_isKnown m_choice m_row m_up m_low m_m m_bestUp m_bestLow m_replyUp m_replyLow m_worthUp m_worthLow m_bestWay i_seed m_told i_toldMany), (wI g m_tape 2 440 otf_58983)]) hP hD [0, 1] [] rfl rfl (by decide) (by decide) hk1 hFc hP1 hD1
    generalize H1 = H at hP hS ⊢
    have hP : va_P D vwCl [(wO12 mm 0 m_s m_spare m_kept m_undone m_triedWay m_isKept i_undoMany m_tape o_length_58982 i_size i_p i_at i_token i_number i_letterMany i_fault i_faultAt m_letters i_isKnown m_choice m_row m_up m_low m_m m_bestUp m_bestLow m_replyUp m_replyLow m_worthUp m_worthLow m_bestWay i_seed m_told i_toldMany), (wI g m_tape 2 440 otf_58983)] H := hP
    have hD : va_D A [(wO12 mm 0 m_s m_spare m_kept m_undone m_triedWay m_isKept i_undoMany m_tape o_length_58982 i_size i_p i_at i_token i_number i_letterMany i_fault i_faultAt m_letters i_isKnown m_choice m_row m_up m_low m_m m_bestUp m_bestLow m_replyUp m_replyLow m_worthUp m_worthLow m_bestWay i_seed m_told i_toldMany), (wI g m_tape 2 440 otf_58983)] := hD
    refine lv_aload_n hx hb dX12_feed_25 rfl (lv_at hl 0 rfl) ?_
    refine lv_iload_n hx hb dX12_feed_26 rfl (lv_at hl 2 rfl) ?_
    have h_58988 : 0 ≤ (o_length_58982 : Int32).toInt ∧ (o_length_58982 : Int32).toInt ≤ 436 := by (first | (clear h_i_undoMany h_i_length h_i_size h_i_p h_i_at h_i_token h_i_number h_i_letterMany h_i_faultAt h_i_isKnown h_i_toldMany h_v_58976 q_v_58976 c_58977_i h_58978 h_58980; omega) | omega)
    have hPc := hP.sub (ws' := [(wO12 mm 0 m_s m_spare m_kept m_undone m_triedWay m_isKept i_undoMany m_tape o_length_58982 i_size i_p i_at i_token i_number i_letterMany i_fault i_faultAt m_letters i_isKnown m_choice m_row m_up m_low m_m m_bestUp m_bestLow m_replyUp m_replyLow m_worthUp m_worthLow m_bestWay i_seed m_told i_toldMany), (wI g m_tape 2 440 otf_58983)]) [0, 1] rfl
    have hDc := hD.sub (ws' := [(wO12 mm 0 m_s m_spare m_kept m_undone m_triedWay m_isKept i_undoMany m_tape o_length_58982 i_size i_p i_at i_token i_number i_letterMany i_fault i_faultAt m_letters i_isKnown m_choice m_row m_up m_low m_m m_bestUp m_bestLow m_replyUp m_replyLow m_worthUp m_worthLow m_bestWay i_seed m_told i_toldMany), (wI g m_tape 2 440 otf_58983)]) [0, 1] (by decide) rfl
    have hFc := va_free (wc := [(wO12 mm 0 m_s m_spare m_kept m_undone m_triedWay m_isKept i_undoMany m_tape o_length_58982 i_size i_p i_at i_token i_number i_letterMany i_fault i_faultAt m_letters i_isKnown m_choice m_row m_up m_low m_m m_bestUp m_bestLow m_replyUp m_replyLow m_worthUp m_worthLow m_bestWay i_seed m_told i_toldMany), (wI g m_tape 2 440 otf_58983)]) hD hS hA [0, 1] rfl
    refine va_callv (va_runV (As := [.int p1]) (rest := []) ⟨hx, hb, hml, hown, hts⟩ (c_X12_four2 l D g H.size mm p1 0 m_s m_spare m_kept m_undone m_triedWay m_isKept i_undoMany m_tape o_length_58982 i_size i_p i_at i_token i_number i_letterMany i_fault i_faultAt m_letters i_isKnown m_choice m_row m_up m_low m_m m_bestUp m_bestLow m_replyUp m_replyLow m_worthUp m_worthLow m_bestWay i_seed m_told i_toldMany otf_58983 (tr_w h_i_undoMany (by decide) (by decide)) (tr_w h_58988 (by decide) (by decide)) (tr_w h_i_size (by decide) (by decide)) (tr_w h_i_p (by decide) (by decide)) (tr_w h_i_at (by decide) (by decide)) (tr_w h_i_token (by decide) (by decide)) (tr_w h_i_number (by decide) (by decide)) (tr_w h_i_letterMany (by decide) (by decide)) (tr_w h_i_faultAt (by decide) (by decide)) (tr_w h_i_isKnown (by decide) (by decide)) (tr_w h_i_toldMany (by decide) (by decide)) (tr_wa hf_58985 (by decide) (by decide))) (cwV 1 hts (tz_gV qw_7 qw_8 qw_9 qw_3 qw_10) rfl rfl rfl (by decide +kernel) ⟨Nat.le_of_ble_eq_true rfl, Nat.le_of_ble_eq_true rfl⟩) ⟨tz_blQ, va_recv hK hPc (ci := 12) (q0 := 0) rfl rfl, tz_preQ hPc hK hDc⟩ rfl rfl hl.1 rfl (lv_room (Nat.le_of_ble_eq_true rfl)) dX12_feed_27 ⟨Nat.le_of_ble_eq_true rfl, Nat.le_of_ble_eq_true rfl⟩) hS (fun q _ h => hFc q h) hFc (fun u t H1 locs ht hvm hw hB hz1 hk1 hS => ?_)
    obtain ⟨o_length_58990, otf_58991, hf_58992, hf_58993, hf_58994, hf_58995, hP1, hD1⟩ := hB
    rw [ht] at hP1
    obtain ⟨hP, hD⟩ := va_join (wr := []) (w1 := [(wO12 mm 0 m_s m_spare m_kept m_undone m_triedWay m_isKept i_undoMany m_tape o_length_58990 i_size i_p i_at i_token i_number i_letterMany i_fault i_faultAt m_letters i_isKnown m_choice m_row m_up m_low m_m m_bestUp m_bestLow m_replyUp m_replyLow m_worthUp m_worthLow m_bestWay i_seed m_told i_toldMany), (wI g m_tape 2 440 otf_58991)]) hP hD [0, 1] [] rfl rfl (by decide) (by decide) hk1 hFc hP1 hD1
    generalize H1 = H at hP hS ⊢
    have hP : va_P D vwCl [(wO12 mm 0 m_s m_spare m_kept m_undone m_triedWay m_isKept i_undoMany m_tape o_length_58990 i_size i_p i_at i_token i_number i_letterMany i_fault i_faultAt m_letters i_isKnown m_choice m_row m_up m_low m_m m_bestUp m_bestLow m_replyUp m_replyLow m_worthUp m_worthLow m_bestWay i_seed m_told i_toldMany), (wI g m_tape 2 440 otf_58991)] H := hP
    have hD : va_D A [(wO12 mm 0 m_s m_spare m_kept m_undone m_triedWay m_isKept i_undoMany m_tape o_length_58990 i_size i_p i_at i_token i_number i_letterMany i_fault i_faultAt m_letters i_isKnown m_choice m_row m_up m_low m_m m_bestUp m_bestLow m_replyUp m_replyLow m_worthUp m_worthLow m_bestWay i_seed m_told i_toldMany), (wI g m_tape 2 440 otf_58991)] := hD
    refine lv_aload_n hx hb dX12_feed_30 rfl (lv_at hl 0 rfl) ?_
    refine lv_iload_n hx hb dX12_feed_31 rfl (lv_at hl 3 rfl) ?_
    have h_58996 : 0 ≤ (o_length_58990 : Int32).toInt ∧ (o_length_58990 : Int32).toInt ≤ 436 := by (first | (clear h_i_undoMany h_i_length h_i_size h_i_p h_i_at h_i_token h_i_number h_i_letterMany h_i_faultAt h_i_isKnown h_i_toldMany h_v_58976 q_v_58976 c_58977_i h_58978 h_58980 h_58988; omega) | omega)
    have hPc := hP.sub (ws' := [(wO12 mm 0 m_s m_spare m_kept m_undone m_triedWay m_isKept i_undoMany m_tape o_length_58990 i_size i_p i_at i_token i_number i_letterMany i_fault i_faultAt m_letters i_isKnown m_choice m_row m_up m_low m_m m_bestUp m_bestLow m_replyUp m_replyLow m_worthUp m_worthLow m_bestWay i_seed m_told i_toldMany), (wI g m_tape 2 440 otf_58991)]) [0, 1] rfl
    have hDc := hD.sub (ws' := [(wO12 mm 0 m_s m_spare m_kept m_undone m_triedWay m_isKept i_undoMany m_tape o_length_58990 i_size i_p i_at i_token i_number i_letterMany i_fault i_faultAt m_letters i_isKnown m_choice m_row m_up m_low m_m m_bestUp m_bestLow m_replyUp m_replyLow m_worthUp m_worthLow m_bestWay i_seed m_told i_toldMany), (wI g m_tape 2 440 otf_58991)]) [0, 1] (by decide) rfl
    have hFc := va_free (wc := [(wO12 mm 0 m_s m_spare m_kept m_undone m_triedWay m_isKept i_undoMany m_tape o_length_58990 i_size i_p i_at i_token i_number i_letterMany i_fault i_faultAt m_letters i_isKnown m_choice m_row m_up m_low m_m m_bestUp m_bestLow m_replyUp m_replyLow m_worthUp m_worthLow m_bestWay i_seed m_told i_toldMany), (wI g m_tape 2 440 otf_58991)]) hD hS hA [0, 1] rfl
    refine va_callv (va_runV (As := [.int p2]) (rest := []) ⟨hx, hb, hml, hown, hts⟩ (c_X12_four2 l D g H.size mm p2 0 m_s m_spare m_kept m_undone m_triedWay m_isKept i_undoMany m_tape o_length_58990 i_size i_p i_at i_token i_number i_letterMany i_fault i_faultAt m_letters i_isKnown m_choice m_row m_up m_low m_m m_bestUp m_bestLow m_replyUp m_replyLow m_worthUp m_worthLow m_bestWay i_seed m_told i_toldMany otf_58991 (tr_w h_i_undoMany (by decide) (by decide)) (tr_w h_58996 (by decide) (by decide)) (tr_w h_i_size (by decide) (by decide)) (tr_w h_i_p (by decide) (by decide)) (tr_w h_i_at (by decide) (by decide)) (tr_w h_i_token (by decide) (by decide)) (tr_w h_i_number (by decide) (by decide)) (tr_w h_i_letterMany (by decide) (by decide)) (tr_w h_i_faultAt (by decide) (by decide)) (tr_w h_i_isKnown (by decide) (by decide)) (tr_w h_i_toldMany (by decide) (by decide)) (tr_wa hf_58993 (by decide) (by decide))) (cwV 1 hts (tz_gV qw_7 qw_8 qw_9 qw_3 qw_10) rfl rfl rfl (by decide +kernel) ⟨Nat.le_of_ble_eq_true rfl, Nat.le_of_ble_eq_true rfl⟩) ⟨tz_blQ, va_recv hK hPc (ci := 12) (q0 := 0) rfl rfl, tz_preQ hPc hK hDc⟩ rfl rfl hl.1 rfl (lv_room (Nat.le_of_ble_eq_true rfl)) dX12_feed_32 ⟨Nat.le_of_ble_eq_true rfl, Nat.le_of_ble_eq_true rfl⟩) hS (fun q _ h => hFc q h) hFc (fun u t H1 locs ht hvm hw hB hz1 hk1 hS => ?_)
    obtain ⟨o_length_58998, otf_58999, hf_59000, hf_59001, hf_59002, hf_59003, hP1, hD1⟩ := hB
    rw [ht] at hP1
    obtain ⟨hP, hD⟩ := va_join (wr := []) (w1 := [(wO12 mm 0 m_s m_spare m_kept m_undone m_triedWay m_isKept i_undoMany m_tape o_length_58998 i_size i_p i_at i_token i_number i_letterMany i_fault i_faultAt m_letters i_isKnown m_choice m_row m_up m_low m_m m_bestUp m_bestLow m_replyUp m_replyLow m_worthUp m_worthLow m_bestWay i_seed m_told i_toldMany), (wI g m_tape 2 440 otf_58999)]) hP hD [0, 1] [] rfl rfl (by decide) (by decide) hk1 hFc hP1 hD1
    generalize H1 = H at hP hS ⊢
    have hP : va_P D vwCl [(wO12 mm 0 m_s m_spare m_kept m_undone m_triedWay m_isKept i_undoMany m_tape o_length_58998 i_size i_p i_at i_token i_number i_letterMany i_fault i_faultAt m_letters i_isKnown m_choice m_row m_up m_low m_m m_bestUp m_bestLow m_replyUp m_replyLow m_worthUp m_worthLow m_bestWay i_seed m_told i_toldMany), (wI g m_tape 2 440 otf_58999)] H := hP
    have hD : va_D A [(wO12 mm 0 m_s m_spare m_kept m_undone m_triedWay m_isKept i_undoMany m_tape o_length_58998 i_size i_p i_at i_token i_number i_letterMany i_fault i_faultAt m_letters i_isKnown m_choice m_row m_up m_low m_m m_bestUp m_bestLow m_replyUp m_replyLow m_worthUp m_worthLow m_bestWay i_seed m_told i_toldMany), (wI g m_tape 2 440 otf_58999)] := hD
    refine lv_aload_n hx hb dX12_feed_35 rfl (lv_at hl 0 rfl) ?_
    refine lv_iload hx hb dX12_feed_36 (lv_at hl 4 rfl) ?_
    have h_59004 : 0 ≤ (o_length_58998 : Int32).toInt ∧ (o_length_58998 : Int32).toInt ≤ 436 := by (first | (clear h_i_undoMany h_i_length h_i_size h_i_p h_i_at h_i_token h_i_number h_i_letterMany h_i_faultAt h_i_isKnown h_i_toldMany h_v_58976 q_v_58976 c_58977_i h_58978 h_58980 h_58988 h_58996; omega) | omega)
    have hPc := hP.sub (ws' := [(wO12 mm 0 m_s m_spare m_kept m_undone m_triedWay m_isKept i_undoMany m_tape o_length_58998 i_size i_p i_at i_token i_number i_letterMany i_fault i_faultAt m_letters i_isKnown m_choice m_row m_up m_low m_m m_bestUp m_bestLow m_replyUp m_replyLow m_worthUp m_worthLow m_bestWay i_seed m_told i_toldMany), (wI g m_tape 2 440 otf_58999)]) [0, 1] rfl
    have hDc := hD.sub (ws' := [(wO12 mm 0 m_s m_spare m_kept m_undone m_triedWay m_isKept i_undoMany m_tape o_length_58998 i_size i_p i_at i_token i_number i_letterMany i_fault i_faultAt m_letters i_isKnown m_choice m_row m_up m_low m_m m_bestUp m_bestLow m_replyUp m_replyLow m_worthUp m_worthLow m_bestWay i_seed m_told i_toldMany), (wI g m_tape 2 440 otf_58999)]) [0, 1] (by decide) rfl
    have hFc := va_free (wc := [(wO12 mm 0 m_s m_spare m_kept m_undone m_triedWay m_isKept i_undoMany m_tape o_length_58998 i_size i_p i_at i_token i_number i_letterMany i_fault i_faultAt m_letters i_isKnown m_choice m_row m_up m_low m_m m_bestUp m_bestLow m_replyUp m_replyLow m_worthUp m_worthLow m_bestWay i_seed m_told i_toldMany), (wI g m_tape 2 440 otf_58999)]) hD hS hA [0, 1] rfl
    refine va_callv (va_runV (As := [.int p3]) (rest := []) ⟨hx, hb, hml, hown, hts⟩ (c_X12_four2 l D g H.size mm p3 0 m_s m_spare m_kept m_undone m_triedWay m_isKept i_undoMany m_tape o_length_58998 i_size i_p i_at i_token i_number i_letterMany i_fault i_faultAt m_letters i_isKnown m_choice m_row m_up m_low m_m m_bestUp m_bestLow m_replyUp m_replyLow m_worthUp m_worthLow m_bestWay i_seed m_told i_toldMany otf_58999 (tr_w h_i_undoMany (by decide) (by decide)) (tr_w h_59004 (by decide) (by decide)) (tr_w h_i_size (by decide) (by decide)) (tr_w h_i_p (by decide) (by decide)) (tr_w h_i_at (by decide) (by decide)) (tr_w h_i_token (by decide) (by decide)) (tr_w h_i_number (by decide) (by decide)) (tr_w h_i_letterMany (by decide) (by decide)) (tr_w h_i_faultAt (by decide) (by decide)) (tr_w h_i_isKnown (by decide) (by decide)) (tr_w h_i_toldMany (by decide) (by decide)) (tr_wa hf_59001 (by decide) (by decide))) (cwV 1 hts (tz_gV qw_7 qw_8 qw_9 qw_3 qw_10) rfl rfl rfl (by decide +kernel) ⟨Nat.le_of_ble_eq_true rfl, Nat.le_of_ble_eq_true rfl⟩) ⟨tz_blQ, va_recv hK hPc (ci := 12) (q0 := 0) rfl rfl, tz_preQ hPc hK hDc⟩ rfl rfl hl.1 rfl (lv_room (Nat.le_of_ble_eq_true rfl)) dX12_feed_38 ⟨Nat.le_of_ble_eq_true rfl, Nat.le_of_ble_eq_true rfl⟩) hS (fun q _ h => hFc q h) hFc (fun u t H1 locs ht hvm hw hB hz1 hk1 hS => ?_)
    obtain ⟨o_length_59006, otf_59007, hf_59008, hf_59009, hf_59010, hf_59011, hP1, hD1⟩ := hB
    rw [ht] at hP1
    obtain ⟨hP, hD⟩ := va_join (wr := []) (w1 := [(wO12 mm 0 m_s m_spare m_kept m_undone m_triedWay m_isKept i_undoMany m_tape o_length_59006 i_size i_p i_at i_token i_number i_letterMany i_fault i_faultAt m_letters i_isKnown m_choice m_row m_up m_low m_m m_bestUp m_bestLow m_replyUp m_replyLow m_worthUp m_worthLow m_bestWay i_seed m_told i_toldMany), (wI g m_tape 2 440 otf_59007)]) hP hD [0, 1] [] rfl rfl (by decide) (by decide) hk1 hFc hP1 hD1
    generalize H1 = H at hP hS ⊢
    have hP : va_P D vwCl [(wO12 mm 0 m_s m_spare m_kept m_undone m_triedWay m_isKept i_undoMany m_tape o_length_59006 i_size i_p i_at i_token i_number i_letterMany i_fault i_faultAt m_letters i_isKnown m_choice m_row m_up m_low m_m m_bestUp m_bestLow m_replyUp m_replyLow m_worthUp m_worthLow m_bestWay i_seed m_told i_toldMany), (wI g m_tape 2 440 otf_59007)] H := hP
    have hD : va_D A [(wO12 mm 0 m_s m_spare m_kept m_undone m_triedWay m_isKept i_undoMany m_tape o_length_59006 i_size i_p i_at i_token i_number i_letterMany i_fault i_faultAt m_letters i_isKnown m_choice m_row m_up m_low m_m m_bestUp m_bestLow m_replyUp m_replyLow m_worthUp m_worthLow m_bestWay i_seed m_told i_toldMany), (wI g m_tape 2 440 otf_59007)] := hD
    refine lv_aload_n hx hb dX12_feed_41 rfl (lv_at hl 0 rfl) ?_
    refine lv_iload hx hb dX12_feed_42 (lv_at hl 5 rfl) ?_
    have h_59012 : 0 ≤ (o_length_59006 : Int32).toInt ∧ (o_length_59006 : Int32).toInt ≤ 436 := by (first | (clear h_i_undoMany h_i_length h_i_size h_i_p h_i_at h_i_token h_i_number h_i_letterMany h_i_faultAt h_i_isKnown h_i_toldMany h_v_58976 q_v_58976 c_58977_i h_58978 h_58980 h_58988 h_58996 h_59004; omega) | omega)
    have hPc := hP.sub (ws' := [(wO12 mm 0 m_s m_spare m_kept m_undone m_triedWay m_isKept i_undoMany m_tape o_length_59006 i_size i_p i_at i_token i_number i_letterMany i_fault i_faultAt m_letters i_isKnown m_choice m_row m_up m_low m_m m_bestUp m_bestLow m_replyUp m_replyLow m_worthUp m_worthLow m_bestWay i_seed m_told i_toldMany), (wI g m_tape 2 440 otf_59007)]) [0, 1] rfl
    have hDc := hD.sub (ws' := [(wO12 mm 0 m_s m_spare m_kept m_undone m_triedWay m_isKept i_undoMany m_tape o_length_59006 i_size i_p i_at i_token i_number i_letterMany i_fault i_faultAt m_letters i_isKnown m_choice m_row m_up m_low m_m m_bestUp m_bestLow m_replyUp m_replyLow m_worthUp m_worthLow m_bestWay i_seed m_told i_toldMany), (wI g m_tape 2 440 otf_59007)]) [0, 1] (by decide) rfl
    have hFc := va_free (wc := [(wO12 mm 0 m_s m_spare m_kept m_undone m_triedWay m_isKept i_undoMany m_tape o_length_59006 i_size i_p i_at i_token i_number i_letterMany i_fault i_faultAt m_letters i_isKnown m_choice m_row m_up m_low m_m m_bestUp m_bestLow m_replyUp m_replyLow m_worthUp m_worthLow m_bestWay i_seed m_told i_toldMany), (wI g m_tape 2 440 otf_59007)]) hD hS hA [0, 1] rfl
    refine va_callv (va_runV (As := [.int p4]) (rest := []) ⟨hx, hb, hml, hown, hts⟩ (c_X12_four2 l D g H.size mm p4 0 m_s m_spare m_kept m_undone m_triedWay m_isKept i_undoMany m_tape o_length_59006 i_size i_p i_at i_token i_number i_letterMany i_fault i_faultAt m_letters i_isKnown m_choice m_row m_up m_low m_m m_bestUp m_bestLow m_replyUp m_replyLow m_worthUp m_worthLow m_bestWay i_seed m_told i_toldMany otf_59007 (tr_w h_i_undoMany (by decide) (by decide)) (tr_w h_59012 (by decide) (by decide)) (tr_w h_i_size (by decide) (by decide)) (tr_w h_i_p (by decide) (by decide)) (tr_w h_i_at (by decide) (by decide)) (tr_w h_i_token (by decide) (by decide)) (tr_w h_i_number (by decide) (by decide)) (tr_w h_i_letterMany (by decide) (by decide)) (tr_w h_i_faultAt (by decide) (by decide)) (tr_w h_i_isKnown (by decide) (by decide)) (tr_w h_i_toldMany (by decide) (by decide)) (tr_wa hf_59009 (by decide) (by decide))) (cwV 1 hts (tz_gV qw_7 qw_8 qw_9 qw_3 qw_10) rfl rfl rfl (by decide +kernel) ⟨Nat.le_of_ble_eq_true rfl, Nat.le_of_ble_eq_true rfl⟩) ⟨tz_blQ, va_recv hK hPc (ci := 12) (q0 := 0) rfl rfl, tz_preQ hPc hK hDc⟩ rfl rfl hl.1 rfl (lv_room (Nat.le_of_ble_eq_true rfl)) dX12_feed_44 ⟨Nat.le_of_ble_eq_true rfl, Nat.le_of_ble_eq_true rfl⟩) hS (fun q _ h => hFc q h) hFc (fun u t H1 locs ht hvm hw hB hz1 hk1 hS => ?_)
    obtain ⟨o_length_59014, otf_59015, hf_59016, hf_59017, hf_59018, hf_59019, hP1, hD1⟩ := hB
    rw [ht] at hP1
    obtain ⟨hP, hD⟩ := va_join (wr := []) (w1 := [(wO12 mm 0 m_s m_spare m_kept m_undone m_triedWay m_isKept i_undoMany m_tape o_length_59014 i_size i_p i_at i_token i_number i_letterMany i_fault i_faultAt m_letters i_isKnown m_choice m_row m_up m_low m_m m_bestUp m_bestLow m_replyUp m_replyLow m_worthUp m_worthLow m_bestWay i_seed m_told i_toldMany), (wI g m_tape 2 440 otf_59015)]) hP hD [0, 1] [] rfl rfl (by decide) (by decide) hk1 hFc hP1 hD1
    generalize H1 = H at hP hS ⊢
    have hP : va_P D vwCl [(wO12 mm 0 m_s m_spare m_kept m_undone m_triedWay m_isKept i_undoMany m_tape o_length_59014 i_size i_p i_at i_token i_number i_letterMany i_fault i_faultAt m_letters i_isKnown m_choice m_row m_up m_low m_m m_bestUp m_bestLow m_replyUp m_replyLow m_worthUp m_worthLow m_bestWay i_seed m_told i_toldMany), (wI g m_tape 2 440 otf_59015)] H := hP
    have hD : va_D A [(wO12 mm 0 m_s m_spare m_kept m_undone m_triedWay m_isKept i_undoMany m_tape o_length_59014 i_size i_p i_at i_token i_number i_letterMany i_fault i_faultAt m_letters i_isKnown m_choice m_row m_up m_low m_m m_bestUp m_bestLow m_replyUp m_replyLow m_worthUp m_worthLow m_bestWay i_seed m_told i_toldMany), (wI g m_tape 2 440 otf_59015)] := hD
    refine lv_aload_n hx hb dX12_feed_47 rfl (lv_at hl 0 rfl) ?_
    refine va_get (D := D) (ci := 12) (v := .int o_length_59014) (C := RX12) (T := TX12) (N := 35) hx hb hts inlX12 hown hK hP 0 rfl rfl 9 (by decide) (hts (Cond.fieldLink RX12 82 "ChanceRingsModel" "length" "I") qw_6) (fun _ h9 => h9) rfl dX12_feed_48 ?_
    have hP9 := hP.sub (ws' := [(wO12 mm 0 m_s m_spare m_kept m_undone m_triedWay m_isKept i_undoMany m_tape o_length_59014 i_size i_p i_at i_token i_number i_letterMany i_fault i_faultAt m_letters i_isKnown m_choice m_row m_up m_low m_m m_bestUp m_bestLow m_replyUp m_replyLow m_worthUp m_worthLow m_bestWay i_seed m_told i_toldMany), (wI g m_tape 2 440 otf_59015)]) [0, 1] rfl
    have hD9 := hD.sub (ws' := [(wO12 mm 0 m_s m_spare m_kept m_undone m_triedWay m_isKept i_undoMany m_tape o_length_59014 i_size i_p i_at i_token i_number i_letterMany i_fault i_faultAt m_letters i_isKnown m_choice m_row m_up m_low m_m m_bestUp m_bestLow m_replyUp m_replyLow m_worthUp m_worthLow m_bestWay i_seed m_told i_toldMany), (wI g m_tape 2 440 otf_59015)]) [0, 1] (by decide) rfl
    exact W.iret (v := o_length_59014) hx hb hr (fun t ht hW => ⟨⟨o_length_59014, (), rfl, ⟨(tr_w hf_59016 (by decide) (by decide)), (by have z_0 := tk_0; have z_1 := tk_1; (first | (clear h_i_undoMany h_i_length h_i_size h_i_p h_i_at h_i_token h_i_number h_i_letterMany h_i_faultAt h_i_isKnown h_i_toldMany h_v_58976 q_v_58976 c_58977_i h_58978 h_58980 h_58988 h_58996 h_59004 h_59012; omega) | omega))⟩, 0, o_length_59014, otf_59015, (tr_w hf_59016 (by decide) (by decide)), (tr_wa hf_59017 (by decide) (by decide)), (by have z_0 := tk_0; have z_1 := tk_1; (first | (clear h_i_undoMany h_i_length h_i_size h_i_p h_i_at h_i_token h_i_number h_i_letterMany h_i_faultAt h_i_isKnown h_i_toldMany h_v_58976 q_v_58976 c_58977_i h_58978 h_58980 h_58988 h_58996 h_59004 h_59012; omega) | omega)), ⟨fun _ => ap20_of hf_58987 hf_58995 hf_59003 hf_59011 hf_59019 (by (first | (clear h_i_undoMany h_i_length h_i_size h_i_p h_i_at h_i_token h_i_number h_i_letterMany h_i_faultAt h_i_isKnown h_i_toldMany h_v_58976 q_v_58976 c_58977_i h_58978 h_58980 h_58988 h_58996 h_59004 h_59012; omega) | omega)) (by (first | (clear h_i_undoMany h_i_length h_i_size h_i_p h_i_at h_i_token h_i_number h_i_letterMany h_i_faultAt h_i_isKnown h_i_toldMany h_v_58976 q_v_58976 c_58977_i h_58978 h_58980 h_58988 h_58996 h_59004 h_59012; omega) | omega)) (by (first | (clear h_i_undoMany h_i_length h_i_size h_i_p h_i_at h_i_token h_i_number h_i_letterMany h_i_faultAt h_i_isKnown h_i_toldMany h_v_58976 q_v_58976 c_58977_i h_58978 h_58980 h_58988 h_58996 h_59004 h_59012; omega) | omega)) (by (first | (clear h_i_undoMany h_i_length h_i_size h_i_p h_i_at h_i_token h_i_number h_i_letterMany h_i_faultAt h_i_isKnown h_i_toldMany h_v_58976 q_v_58976 c_58977_i h_58978 h_58980 h_58988 h_58996 h_59004 h_59012; omega) | omega)), fun h9 => absurd h9 (by (first | (clear h_i_undoMany h_i_length h_i_size h_i_p h_i_at h_i_token h_i_number h_i_letterMany h_i_faultAt h_i_isKnown h_i_toldMany h_v_58976 q_v_58976 c_58977_i h_58978 h_58980 h_58988 h_58996 h_59004 h_59012; omega) | omega))⟩, by rw [ht]; exact hP9, hD9⟩, hS.F ht⟩) hS.2.2 dX12_feed_51
  · skip
    have kk_440 := tk_440
    have c_58977_i := Int32.lt_iff_toInt_lt.mp (Int32.not_le.mp c_58977)
    have h_58979 : 441 ≤ (v_58976 : Int32).toInt ∧ (v_58976 : Int32).toInt ≤ 460 := nr_lt_r (⟨by decide, by decide⟩ : 440 ≤ (440 : Int32).toInt ∧ (440 : Int32).toInt ≤ 440) h_v_58976 c_58977_i (by decide) (by decide)
    refine lv_iconst (v := (-1)) hx hb dX12_feed_18 (by decide) ?_
    have hP9 := hP.sub (ws' := [(wO12 mm 0 m_s m_spare m_kept m_undone m_triedWay m_isKept i_undoMany m_tape i_length i_size i_p i_at i_token i_number i_letterMany i_fault i_faultAt m_letters i_isKnown m_choice m_row m_up m_low m_m m_bestUp m_bestLow m_replyUp m_replyLow m_worthUp m_worthLow m_bestWay i_seed m_told i_toldMany), (wI g m_tape 2 440 tf)]) [0, 1] rfl
    have hD9 := hD.sub (ws' := [(wO12 mm 0 m_s m_spare m_kept m_undone m_triedWay m_isKept i_undoMany m_tape i_length i_size i_p i_at i_token i_number i_letterMany i_fault i_faultAt m_letters i_isKnown m_choice m_row m_up m_low m_m m_bestUp m_bestLow m_replyUp m_replyLow m_worthUp m_worthLow m_bestWay i_seed m_told i_toldMany), (wI g m_tape 2 440 tf)]) [0, 1] (by decide) rfl
    exact W.iret (v := (-1)) hx hb hr (fun t ht hW => ⟨⟨(-1), (), rfl, ⟨(⟨by decide, by decide⟩ : (-1) ≤ ((-1) : Int32).toInt ∧ ((-1) : Int32).toInt ≤ 440), (by have z_m1 := tk_m1; have z_0 := tk_0; have z_1 := tk_1; (first | (clear h_i_undoMany h_i_size h_i_p h_i_at h_i_token h_i_number h_i_letterMany h_i_faultAt h_i_isKnown h_i_toldMany; omega) | omega))⟩, 0, i_length, tf, (tr_w h_i_length (by decide) (by decide)), (tr_wa h_tf (by decide) (by decide)), (by have z_0 := tk_0; have z_1 := tk_1; (first | (clear h_i_undoMany h_i_size h_i_p h_i_at h_i_token h_i_number h_i_letterMany h_i_faultAt h_i_isKnown h_i_toldMany; omega) | omega)), ⟨fun h9 => absurd h9 (by (first | (clear h_i_undoMany h_i_size h_i_p h_i_at h_i_token h_i_number h_i_letterMany h_i_faultAt h_i_isKnown h_i_toldMany; omega) | omega)), fun _ => rfl⟩, by rw [ht]; exact hP9, hD9⟩, hS.F ht⟩) hS.2.2 dX12_feed_19
theorem qw_313 : Cond.fieldLink RX2 33 "ChanceRings$Net" "nodes" "I" ∈ wsL_law := tseg_1 (by decide +kernel) (List.mem_of_getElem? (i := 54) (by decide +kernel))
theorem qw_314 : Cond.fieldLink RX2 24 "ChanceRings$Net" "held" "[I" ∈ wsL_law := tseg_1 (by decide +kernel) (List.mem_of_getElem? (i := 85) (by decide +kernel))
theorem qw_316 : Cond.fieldLink RX2 9 "ChanceRings$Net" "kind" "[I" ∈ wsL_law := tseg_1 (by decide +kernel) (List.mem_of_getElem? (i := 62) (by decide +kernel))
theorem qw_317 : Cond.fieldLink RX2 15 "ChanceRings$Net" "pay" "[I" ∈ wsL_law := tseg_1 (by decide +kernel) (List.mem_of_getElem? (i := 70) (by decide +kernel))
theorem qw_318 : Cond.fieldLink RX2 21 "ChanceRings$Net" "ways" "[I" ∈ wsL_law := tseg_1 (by decide +kernel) (List.mem_of_getElem? (i := 78) (by decide +kernel))
theorem qw_319 : Cond.methodLink RX2 47 yX2_canTake ∈ wsL_law := tseg_3 (by decide +kernel) (List.mem_of_getElem? (i := 113) (by decide +kernel))
theorem qw_320 : Cond.instanceMethod yX2_canTake ∈ wsL_law := tseg_3 (by decide +kernel) (List.mem_of_getElem? (i := 114) (by decide +kernel))
theorem qw_321 : Cond.selects RX2 yX2_canTake yX2_canTake ∈ wsL_law := tseg_3 (by decide +kernel) (List.mem_of_getElem? (i := 115) (by decide +kernel))
theorem qw_323 : Cond.code yX2_canTake cX2_canTake 3 (some .boolean) ∈ wsL_law := tseg_3 (by decide +kernel) (List.mem_of_getElem? (i := 116) (by decide +kernel))
theorem qw_324 : Cond.methodLink RX2 51 yX2_target ∈ wsL_law := tseg_3 (by decide +kernel) (List.mem_of_getElem? (i := 117) (by decide +kernel))
theorem qw_328 : Cond.methodLink RX2 43 yX2_has ∈ wsL_law := tseg_3 (by decide +kernel) (List.mem_of_getElem? (i := 84) (by decide +kernel))
theorem qw_329 : Cond.instanceMethod yX2_has ∈ wsL_law := tseg_3 (by decide +kernel) (List.mem_of_getElem? (i := 85) (by decide +kernel))
theorem qw_330 : Cond.selects RX2 yX2_has yX2_has ∈ wsL_law := tseg_3 (by decide +kernel) (List.mem_of_getElem? (i := 86) (by decide +kernel))
theorem qw_331 : Cond.code yX2_has cX2_has 2 (some .boolean) ∈ wsL_law := tseg_3 (by decide +kernel) (List.mem_of_getElem? (i := 87) (by decide +kernel))
theorem dX2_canTake_0 : decode cX2_canTake 0 = .ok (.aload_n 0, 1) := by decide +kernel
theorem dX2_canTake_1 : decode cX2_canTake 1 = .ok (.getfield 24, 3) := by decide +kernel
theorem dX2_canTake_4 : decode cX2_canTake 4 = .ok (.iload_n 1, 1) := by decide +kernel
theorem dX2_canTake_5 : decode cX2_canTake 5 = .ok (.iaload, 1) := by decide +kernel
theorem dX2_canTake_6 : decode cX2_canTake 6 = .ok (.iconst (-1), 1) := by decide +kernel
theorem dX2_canTake_7 : decode cX2_canTake 7 = .ok (.if_icmp .eq 13, 3) := by decide +kernel
theorem dX2_canTake_10 : decode cX2_canTake 10 = .ok (.aload_n 0, 1) := by decide +kernel
theorem dX2_canTake_11 : decode cX2_canTake 11 = .ok (.getfield 24, 3) := by decide +kernel
theorem dX2_canTake_14 : decode cX2_canTake 14 = .ok (.iload_n 1, 1) := by decide +kernel
theorem dX2_canTake_15 : decode cX2_canTake 15 = .ok (.iaload, 1) := by decide +kernel
theorem dX2_canTake_16 : decode cX2_canTake 16 = .ok (.iload_n 2, 1) := by decide +kernel
theorem dX2_canTake_17 : decode cX2_canTake 17 = .ok (.if_icmp .ne 7, 3) := by decide +kernel
theorem dX2_canTake_20 : decode cX2_canTake 20 = .ok (.iconst 1, 1) := by decide +kernel
theorem dX2_canTake_21 : decode cX2_canTake 21 = .ok (.goto 4, 3) := by decide +kernel
theorem dX2_canTake_24 : decode cX2_canTake 24 = .ok (.iconst 0, 1) := by decide +kernel
theorem dX2_canTake_25 : decode cX2_canTake 25 = .ok (.ireturn, 1) := by decide +kernel
theorem dX2_countTakable_0 : decode cX2_countTakable 0 = .ok (.aload_n 0, 1) := by decide +kernel
theorem dX2_countTakable_1 : decode cX2_countTakable 1 = .ok (.getfield 24, 3) := by decide +kernel
theorem dX2_countTakable_4 : decode cX2_countTakable 4 = .ok (.iload_n 1, 1) := by decide +kernel
theorem dX2_countTakable_5 : decode cX2_countTakable 5 = .ok (.iaload, 1) := by decide +kernel
theorem dX2_countTakable_6 : decode cX2_countTakable 6 = .ok (.iconst (-1), 1) := by decide +kernel
theorem dX2_countTakable_7 : decode cX2_countTakable 7 = .ok (.if_icmp .ne 12, 3) := by decide +kernel
theorem dX2_countTakable_10 : decode cX2_countTakable 10 = .ok (.aload_n 0, 1) := by decide +kernel
theorem dX2_countTakable_11 : decode cX2_countTakable 11 = .ok (.getfield 21, 3) := by decide +kernel
theorem dX2_countTakable_14 : decode cX2_countTakable 14 = .ok (.iload_n 1, 1) := by decide +kernel
theorem dX2_countTakable_15 : decode cX2_countTakable 15 = .ok (.iaload, 1) := by decide +kernel
theorem dX2_countTakable_16 : decode cX2_countTakable 16 = .ok (.goto 4, 3) := by decide +kernel
theorem dX2_countTakable_19 : decode cX2_countTakable 19 = .ok (.iconst 1, 1) := by decide +kernel
theorem dX2_countTakable_20 : decode cX2_countTakable 20 = .ok (.ireturn, 1) := by decide +kernel
theorem dX2_countWays_0 : decode cX2_countWays 0 = .ok (.iconst 0, 1) := by decide +kernel
theorem dX2_countWays_1 : decode cX2_countWays 1 = .ok (.istore_n 1, 1) := by decide +kernel
theorem dX2_countWays_2 : decode cX2_countWays 2 = .ok (.iconst 0, 1) := by decide +kernel
theorem dX2_countWays_3 : decode cX2_countWays 3 = .ok (.istore_n 2, 1) := by decide +kernel
theorem dX2_countWays_4 : decode cX2_countWays 4 = .ok (.iload_n 2, 1) := by decide +kernel
theorem dX2_countWays_5 : decode cX2_countWays 5 = .ok (.aload_n 0, 1) := by decide +kernel
theorem dX2_countWays_6 : decode cX2_countWays 6 = .ok (.getfield 33, 3) := by decide +kernel
theorem dX2_countWays_9 : decode cX2_countWays 9 = .ok (.if_icmp .ge 18, 3) := by decide +kernel
theorem dX2_countWays_12 : decode cX2_countWays 12 = .ok (.iload_n 1, 1) := by decide +kernel
theorem dX2_countWays_13 : decode cX2_countWays 13 = .ok (.aload_n 0, 1) := by decide +kernel
theorem dX2_countWays_14 : decode cX2_countWays 14 = .ok (.getfield 21, 3) := by decide +kernel
theorem dX2_countWays_17 : decode cX2_countWays 17 = .ok (.iload_n 2, 1) := by decide +kernel
theorem dX2_countWays_18 : decode cX2_countWays 18 = .ok (.iaload, 1) := by decide +kernel
theorem dX2_countWays_19 : decode cX2_countWays 19 = .ok (.iadd, 1) := by decide +kernel
theorem dX2_countWays_20 : decode cX2_countWays 20 = .ok (.istore_n 1, 1) := by decide +kernel
theorem dX2_countWays_21 : decode cX2_countWays 21 = .ok (.iinc 2 1, 3) := by decide +kernel
theorem dX2_countWays_24 : decode cX2_countWays 24 = .ok (.goto (-20), 3) := by decide +kernel
theorem dX2_countWays_27 : decode cX2_countWays 27 = .ok (.iload_n 1, 1) := by decide +kernel
theorem dX2_countWays_28 : decode cX2_countWays 28 = .ok (.ireturn, 1) := by decide +kernel
theorem dX2_has_0 : decode cX2_has 0 = .ok (.iload_n 1, 1) := by decide +kernel
theorem dX2_has_1 : decode cX2_has 1 = .ok (.ifCond .lt 15, 3) := by decide +kernel
theorem dX2_has_4 : decode cX2_has 4 = .ok (.iload_n 1, 1) := by decide +kernel
theorem dX2_has_5 : decode cX2_has 5 = .ok (.aload_n 0, 1) := by decide +kernel
theorem dX2_has_6 : decode cX2_has 6 = .ok (.getfield 33, 3) := by decide +kernel
theorem dX2_has_9 : decode cX2_has 9 = .ok (.if_icmp .ge 7, 3) := by decide +kernel
theorem dX2_has_12 : decode cX2_has 12 = .ok (.iconst 1, 1) := by decide +kernel
theorem dX2_has_13 : decode cX2_has 13 = .ok (.goto 4, 3) := by decide +kernel
theorem dX2_has_16 : decode cX2_has 16 = .ok (.iconst 0, 1) := by decide +kernel
theorem dX2_has_17 : decode cX2_has 17 = .ok (.ireturn, 1) := by decide +kernel
theorem dX2_hasWay_0 : decode cX2_hasWay 0 = .ok (.aload_n 0, 1) := by decide +kernel
theorem dX2_hasWay_1 : decode cX2_hasWay 1 = .ok (.iload_n 1, 1) := by decide +kernel
theorem dX2_hasWay_2 : decode cX2_hasWay 2 = .ok (.invokevirtual 43, 3) := by decide +kernel
theorem dX2_hasWay_5 : decode cX2_hasWay 5 = .ok (.ifCond .eq 21, 3) := by decide +kernel
theorem dX2_hasWay_8 : decode cX2_hasWay 8 = .ok (.iload_n 2, 1) := by decide +kernel
theorem dX2_hasWay_9 : decode cX2_hasWay 9 = .ok (.ifCond .lt 17, 3) := by decide +kernel
theorem dX2_hasWay_12 : decode cX2_hasWay 12 = .ok (.iload_n 2, 1) := by decide +kernel
theorem dX2_hasWay_13 : decode cX2_hasWay 13 = .ok (.aload_n 0, 1) := by decide +kernel
theorem dX2_hasWay_14 : decode cX2_hasWay 14 = .ok (.getfield 21, 3) := by decide +kernel
theorem dX2_hasWay_17 : decode cX2_hasWay 17 = .ok (.iload_n 1, 1) := by decide +kernel
theorem dX2_hasWay_18 : decode cX2_hasWay 18 = .ok (.iaload, 1) := by decide +kernel
theorem dX2_hasWay_19 : decode cX2_hasWay 19 = .ok (.if_icmp .ge 7, 3) := by decide +kernel
theorem dX2_hasWay_22 : decode cX2_hasWay 22 = .ok (.iconst 1, 1) := by decide +kernel
theorem dX2_hasWay_23 : decode cX2_hasWay 23 = .ok (.goto 4, 3) := by decide +kernel
theorem dX2_hasWay_26 : decode cX2_hasWay 26 = .ok (.iconst 0, 1) := by decide +kernel
theorem dX2_hasWay_27 : decode cX2_hasWay 27 = .ok (.ireturn, 1) := by decide +kernel
theorem dX2_heldNodes_0 : decode cX2_heldNodes 0 = .ok (.iconst 0, 1) := by decide +kernel
theorem dX2_heldNodes_1 : decode cX2_heldNodes 1 = .ok (.istore_n 1, 1) := by decide +kernel
theorem dX2_heldNodes_2 : decode cX2_heldNodes 2 = .ok (.iconst 0, 1) := by decide +kernel
theorem dX2_heldNodes_3 : decode cX2_heldNodes 3 = .ok (.istore_n 2, 1) := by decide +kernel
theorem dX2_heldNodes_4 : decode cX2_heldNodes 4 = .ok (.iload_n 2, 1) := by decide +kernel
theorem dX2_heldNodes_5 : decode cX2_heldNodes 5 = .ok (.aload_n 0, 1) := by decide +kernel
theorem dX2_heldNodes_6 : decode cX2_heldNodes 6 = .ok (.getfield 33, 3) := by decide +kernel
theorem dX2_heldNodes_9 : decode cX2_heldNodes 9 = .ok (.if_icmp .ge 25, 3) := by decide +kernel
theorem dX2_heldNodes_12 : decode cX2_heldNodes 12 = .ok (.aload_n 0, 1) := by decide +kernel
theorem dX2_heldNodes_13 : decode cX2_heldNodes 13 = .ok (.getfield 24, 3) := by decide +kernel
theorem dX2_heldNodes_16 : decode cX2_heldNodes 16 = .ok (.iload_n 2, 1) := by decide +kernel
theorem dX2_heldNodes_17 : decode cX2_heldNodes 17 = .ok (.iaload, 1) := by decide +kernel
theorem dX2_heldNodes_18 : decode cX2_heldNodes 18 = .ok (.iconst (-1), 1) := by decide +kernel
theorem dX2_heldNodes_19 : decode cX2_heldNodes 19 = .ok (.if_icmp .eq 9, 3) := by decide +kernel
theorem dX2_heldNodes_22 : decode cX2_heldNodes 22 = .ok (.iload_n 1, 1) := by decide +kernel
theorem dX2_heldNodes_23 : decode cX2_heldNodes 23 = .ok (.iconst 1, 1) := by decide +kernel
theorem dX2_heldNodes_24 : decode cX2_heldNodes 24 = .ok (.iload_n 2, 1) := by decide +kernel
theorem dX2_heldNodes_25 : decode cX2_heldNodes 25 = .ok (.ishl, 1) := by decide +kernel
theorem dX2_heldNodes_26 : decode cX2_heldNodes 26 = .ok (.ior, 1) := by decide +kernel
theorem dX2_heldNodes_27 : decode cX2_heldNodes 27 = .ok (.istore_n 1, 1) := by decide +kernel
theorem dX2_heldNodes_28 : decode cX2_heldNodes 28 = .ok (.iinc 2 1, 3) := by decide +kernel
theorem dX2_heldNodes_31 : decode cX2_heldNodes 31 = .ok (.goto (-27), 3) := by decide +kernel
theorem dX2_heldNodes_34 : decode cX2_heldNodes 34 = .ok (.iload_n 1, 1) := by decide +kernel
theorem dX2_heldNodes_35 : decode cX2_heldNodes 35 = .ok (.ireturn, 1) := by decide +kernel
theorem dX2_isChooser_0 : decode cX2_isChooser 0 = .ok (.aload_n 0, 1) := by decide +kernel
theorem dX2_isChooser_1 : decode cX2_isChooser 1 = .ok (.iload_n 1, 1) := by decide +kernel
theorem dX2_isChooser_2 : decode cX2_isChooser 2 = .ok (.invokevirtual 43, 3) := by decide +kernel
theorem dX2_isChooser_5 : decode cX2_isChooser 5 = .ok (.ifCond .eq 27, 3) := by decide +kernel
theorem dX2_isChooser_8 : decode cX2_isChooser 8 = .ok (.aload_n 0, 1) := by decide +kernel
theorem dX2_isChooser_9 : decode cX2_isChooser 9 = .ok (.getfield 9, 3) := by decide +kernel
theorem dX2_isChooser_12 : decode cX2_isChooser 12 = .ok (.iload_n 1, 1) := by decide +kernel
theorem dX2_isChooser_13 : decode cX2_isChooser 13 = .ok (.iaload, 1) := by decide +kernel
theorem dX2_isChooser_14 : decode cX2_isChooser 14 = .ok (.iconst 1, 1) := by decide +kernel
theorem dX2_isChooser_15 : decode cX2_isChooser 15 = .ok (.if_icmp .eq 13, 3) := by decide +kernel
theorem dX2_isChooser_18 : decode cX2_isChooser 18 = .ok (.aload_n 0, 1) := by decide +kernel
theorem dX2_isChooser_19 : decode cX2_isChooser 19 = .ok (.getfield 9, 3) := by decide +kernel
theorem dX2_isChooser_22 : decode cX2_isChooser 22 = .ok (.iload_n 1, 1) := by decide +kernel
theorem dX2_isChooser_23 : decode cX2_isChooser 23 = .ok (.iaload, 1) := by decide +kernel
theorem dX2_isChooser_24 : decode cX2_isChooser 24 = .ok (.iconst 2, 1) := by decide +kernel
theorem dX2_isChooser_25 : decode cX2_isChooser 25 = .ok (.if_icmp .ne 7, 3) := by decide +kernel
theorem dX2_isChooser_28 : decode cX2_isChooser 28 = .ok (.iconst 1, 1) := by decide +kernel
theorem dX2_isChooser_29 : decode cX2_isChooser 29 = .ok (.goto 4, 3) := by decide +kernel
theorem dX2_isChooser_32 : decode cX2_isChooser 32 = .ok (.iconst 0, 1) := by decide +kernel
theorem dX2_isChooser_33 : decode cX2_isChooser 33 = .ok (.ireturn, 1) := by decide +kernel
theorem dX2_nextNodes_0 : decode cX2_nextNodes 0 = .ok (.iconst 0, 1) := by decide +kernel
theorem dX2_nextNodes_1 : decode cX2_nextNodes 1 = .ok (.istore_n 2, 1) := by decide +kernel
theorem dX2_nextNodes_2 : decode cX2_nextNodes 2 = .ok (.iconst 0, 1) := by decide +kernel
theorem dX2_nextNodes_3 : decode cX2_nextNodes 3 = .ok (.istore_n 3, 1) := by decide +kernel
theorem dX2_nextNodes_4 : decode cX2_nextNodes 4 = .ok (.iload_n 3, 1) := by decide +kernel
theorem dX2_nextNodes_5 : decode cX2_nextNodes 5 = .ok (.aload_n 0, 1) := by decide +kernel
theorem dX2_nextNodes_6 : decode cX2_nextNodes 6 = .ok (.getfield 21, 3) := by decide +kernel
theorem dX2_nextNodes_9 : decode cX2_nextNodes 9 = .ok (.iload_n 1, 1) := by decide +kernel
theorem dX2_nextNodes_10 : decode cX2_nextNodes 10 = .ok (.iaload, 1) := by decide +kernel
theorem dX2_nextNodes_11 : decode cX2_nextNodes 11 = .ok (.if_icmp .ge 29, 3) := by decide +kernel
theorem dX2_nextNodes_14 : decode cX2_nextNodes 14 = .ok (.aload_n 0, 1) := by decide +kernel
theorem dX2_nextNodes_15 : decode cX2_nextNodes 15 = .ok (.iload_n 1, 1) := by decide +kernel
theorem dX2_nextNodes_16 : decode cX2_nextNodes 16 = .ok (.iload_n 3, 1) := by decide +kernel
theorem dX2_nextNodes_17 : decode cX2_nextNodes 17 = .ok (.invokevirtual 47, 3) := by decide +kernel
theorem dX2_nextNodes_20 : decode cX2_nextNodes 20 = .ok (.ifCond .eq 14, 3) := by decide +kernel
theorem dX2_nextNodes_23 : decode cX2_nextNodes 23 = .ok (.iload_n 2, 1) := by decide +kernel
theorem dX2_nextNodes_24 : decode cX2_nextNodes 24 = .ok (.iconst 1, 1) := by decide +kernel
theorem dX2_nextNodes_25 : decode cX2_nextNodes 25 = .ok (.aload_n 0, 1) := by decide +kernel
theorem dX2_nextNodes_26 : decode cX2_nextNodes 26 = .ok (.iload_n 1, 1) := by decide +kernel
theorem dX2_nextNodes_27 : decode cX2_nextNodes 27 = .ok (.iload_n 3, 1) := by decide +kernel
theorem dX2_nextNodes_28 : decode cX2_nextNodes 28 = .ok (.invokevirtual 51, 3) := by decide +kernel
theorem dX2_nextNodes_31 : decode cX2_nextNodes 31 = .ok (.ishl, 1) := by decide +kernel
theorem dX2_nextNodes_32 : decode cX2_nextNodes 32 = .ok (.ior, 1) := by decide +kernel
theorem dX2_nextNodes_33 : decode cX2_nextNodes 33 = .ok (.istore_n 2, 1) := by decide +kernel
theorem dX2_nextNodes_34 : decode cX2_nextNodes 34 = .ok (.iinc 3 1, 3) := by decide +kernel
theorem dX2_nextNodes_37 : decode cX2_nextNodes 37 = .ok (.goto (-33), 3) := by decide +kernel
theorem dX2_nextNodes_40 : decode cX2_nextNodes 40 = .ok (.iload_n 2, 1) := by decide +kernel
theorem dX2_nextNodes_41 : decode cX2_nextNodes 41 = .ok (.ireturn, 1) := by decide +kernel
theorem dX2_payingEnds_0 : decode cX2_payingEnds 0 = .ok (.iconst 0, 1) := by decide +kernel
theorem dX2_payingEnds_1 : decode cX2_payingEnds 1 = .ok (.istore_n 1, 1) := by decide +kernel
theorem dX2_payingEnds_2 : decode cX2_payingEnds 2 = .ok (.iconst 0, 1) := by decide +kernel
theorem dX2_payingEnds_3 : decode cX2_payingEnds 3 = .ok (.istore_n 2, 1) := by decide +kernel
theorem dX2_payingEnds_4 : decode cX2_payingEnds 4 = .ok (.iload_n 2, 1) := by decide +kernel
theorem dX2_payingEnds_5 : decode cX2_payingEnds 5 = .ok (.aload_n 0, 1) := by decide +kernel
theorem dX2_payingEnds_6 : decode cX2_payingEnds 6 = .ok (.getfield 33, 3) := by decide +kernel
theorem dX2_payingEnds_9 : decode cX2_payingEnds 9 = .ok (.if_icmp .ge 33, 3) := by decide +kernel
theorem dX2_payingEnds_12 : decode cX2_payingEnds 12 = .ok (.aload_n 0, 1) := by decide +kernel
theorem dX2_payingEnds_13 : decode cX2_payingEnds 13 = .ok (.getfield 9, 3) := by decide +kernel
theorem dX2_payingEnds_16 : decode cX2_payingEnds 16 = .ok (.iload_n 2, 1) := by decide +kernel
theorem dX2_payingEnds_17 : decode cX2_payingEnds 17 = .ok (.iaload, 1) := by decide +kernel
theorem dX2_payingEnds_18 : decode cX2_payingEnds 18 = .ok (.ifCond .ne 18, 3) := by decide +kernel
theorem dX2_payingEnds_21 : decode cX2_payingEnds 21 = .ok (.aload_n 0, 1) := by decide +kernel
theorem dX2_payingEnds_22 : decode cX2_payingEnds 22 = .ok (.getfield 15, 3) := by decide +kernel
theorem dX2_payingEnds_25 : decode cX2_payingEnds 25 = .ok (.iload_n 2, 1) := by decide +kernel
theorem dX2_payingEnds_26 : decode cX2_payingEnds 26 = .ok (.iaload, 1) := by decide +kernel
theorem dX2_payingEnds_27 : decode cX2_payingEnds 27 = .ok (.ifCond .le 9, 3) := by decide +kernel
theorem dX2_payingEnds_30 : decode cX2_payingEnds 30 = .ok (.iload_n 1, 1) := by decide +kernel
theorem dX2_payingEnds_31 : decode cX2_payingEnds 31 = .ok (.iconst 1, 1) := by decide +kernel
theorem dX2_payingEnds_32 : decode cX2_payingEnds 32 = .ok (.iload_n 2, 1) := by decide +kernel
theorem dX2_payingEnds_33 : decode cX2_payingEnds 33 = .ok (.ishl, 1) := by decide +kernel
theorem dX2_payingEnds_34 : decode cX2_payingEnds 34 = .ok (.ior, 1) := by decide +kernel
theorem dX2_payingEnds_35 : decode cX2_payingEnds 35 = .ok (.istore_n 1, 1) := by decide +kernel
theorem dX2_payingEnds_36 : decode cX2_payingEnds 36 = .ok (.iinc 2 1, 3) := by decide +kernel
theorem dX2_payingEnds_39 : decode cX2_payingEnds 39 = .ok (.goto (-35), 3) := by decide +kernel
theorem dX2_payingEnds_42 : decode cX2_payingEnds 42 = .ok (.iload_n 1, 1) := by decide +kernel
theorem dX2_payingEnds_43 : decode cX2_payingEnds 43 = .ok (.ireturn, 1) := by decide +kernel
theorem dX2_setWeight_0 : decode cX2_setWeight 0 = .ok (.aload_n 0, 1) := by decide +kernel
theorem dX2_setWeight_1 : decode cX2_setWeight 1 = .ok (.getfield 30, 3) := by decide +kernel
theorem dX2_setWeight_4 : decode cX2_setWeight 4 = .ok (.iload_n 1, 1) := by decide +kernel
theorem dX2_setWeight_5 : decode cX2_setWeight 5 = .ok (.iconst 3, 1) := by decide +kernel
theorem dX2_setWeight_6 : decode cX2_setWeight 6 = .ok (.imul, 1) := by decide +kernel
theorem dX2_setWeight_7 : decode cX2_setWeight 7 = .ok (.iload_n 2, 1) := by decide +kernel
theorem dX2_setWeight_8 : decode cX2_setWeight 8 = .ok (.iadd, 1) := by decide +kernel
theorem dX2_setWeight_9 : decode cX2_setWeight 9 = .ok (.iload_n 3, 1) := by decide +kernel
theorem dX2_setWeight_10 : decode cX2_setWeight 10 = .ok (.iastore, 1) := by decide +kernel
theorem dX2_setWeight_11 : decode cX2_setWeight 11 = .ok (.return_, 1) := by decide +kernel
theorem dX2_together_0 : decode cX2_together 0 = .ok (.aload_n 0, 1) := by decide +kernel
theorem dX2_together_1 : decode cX2_together 1 = .ok (.getfield 9, 3) := by decide +kernel
theorem dX2_together_4 : decode cX2_together 4 = .ok (.iload_n 1, 1) := by decide +kernel
theorem dX2_together_5 : decode cX2_together 5 = .ok (.iaload, 1) := by decide +kernel
theorem dX2_together_6 : decode cX2_together 6 = .ok (.iconst 3, 1) := by decide +kernel
theorem dX2_together_7 : decode cX2_together 7 = .ok (.if_icmp .eq 5, 3) := by decide +kernel
theorem dX2_together_10 : decode cX2_together 10 = .ok (.iconst 1, 1) := by decide +kernel
theorem dX2_together_11 : decode cX2_together 11 = .ok (.ireturn, 1) := by decide +kernel
theorem dX2_together_12 : decode cX2_together 12 = .ok (.iconst 0, 1) := by decide +kernel
theorem dX2_together_13 : decode cX2_together 13 = .ok (.istore_n 2, 1) := by decide +kernel
theorem dX2_together_14 : decode cX2_together 14 = .ok (.iconst 0, 1) := by decide +kernel
theorem dX2_together_15 : decode cX2_together 15 = .ok (.istore_n 3, 1) := by decide +kernel
theorem dX2_together_16 : decode cX2_together 16 = .ok (.iload_n 3, 1) := by decide +kernel
theorem dX2_together_17 : decode cX2_together 17 = .ok (.aload_n 0, 1) := by decide +kernel
theorem dX2_together_18 : decode cX2_together 18 = .ok (.getfield 21, 3) := by decide +kernel
theorem dX2_together_21 : decode cX2_together 21 = .ok (.iload_n 1, 1) := by decide +kernel
theorem dX2_together_22 : decode cX2_together 22 = .ok (.iaload, 1) := by decide +kernel
theorem dX2_together_23 : decode cX2_together 23 = .ok (.if_icmp .ge 22, 3) := by decide +kernel
theorem dX2_together_26 : decode cX2_together 26 = .ok (.iload_n 2, 1) := by decide +kernel
theorem dX2_together_27 : decode cX2_together 27 = .ok (.aload_n 0, 1) := by decide +kernel
theorem dX2_together_28 : decode cX2_together 28 = .ok (.getfield 30, 3) := by decide +kernel
theorem dX2_together_31 : decode cX2_together 31 = .ok (.iload_n 1, 1) := by decide +kernel
theorem dX2_together_32 : decode cX2_together 32 = .ok (.iconst 3, 1) := by decide +kernel
theorem dX2_together_33 : decode cX2_together 33 = .ok (.imul, 1) := by decide +kernel
theorem dX2_together_34 : decode cX2_together 34 = .ok (.iload_n 3, 1) := by decide +kernel
theorem dX2_together_35 : decode cX2_together 35 = .ok (.iadd, 1) := by decide +kernel
theorem dX2_together_36 : decode cX2_together 36 = .ok (.iaload, 1) := by decide +kernel
theorem dX2_together_37 : decode cX2_together 37 = .ok (.iadd, 1) := by decide +kernel
theorem dX2_together_38 : decode cX2_together 38 = .ok (.istore_n 2, 1) := by decide +kernel
theorem dX2_together_39 : decode cX2_together 39 = .ok (.iinc 3 1, 3) := by decide +kernel
theorem dX2_together_42 : decode cX2_together 42 = .ok (.goto (-26), 3) := by decide +kernel
theorem dX2_together_45 : decode cX2_together 45 = .ok (.iload_n 2, 1) := by decide +kernel
theorem dX2_together_46 : decode cX2_together 46 = .ok (.ireturn, 1) := by decide +kernel
set_option maxHeartbeats 4000000 in
set_option maxRecDepth 100000 in
theorem c_X2_has (l : Launch) (D : va_G) (g : Nat → ClassId) (n : Nat) (p0 : Int32) (n_nodes : Int32) (n_kind : Nat) (n_pay : Nat) (n_name : Nat) (n_ways : Nat) (n_held : Nat) (n_targets : Nat) (n_weights : Nat) (h_n_nodes : 0 ≤ (n_nodes : Int32).toInt ∧ (n_nodes : Int32).toInt ≤ 12) : Met l yX2_has (.code yX2_has cX2_has 2 (some .boolean) :: wsL_law) ({ frames := 0, cells := 0, slots := 0, locals := 0 }) (va_Pc [.ref n, .int p0] (fun U => va_P D vwCl [(wO2 n n_nodes n_kind n_pay n_name n_ways n_held n_targets n_weights)] U.heap ∧ va_K D vwCl (TY g) U)) (vp_Si (fun r => (0 ≤ (r : Int32).toInt ∧ (r : Int32).toInt ≤ 1) ∧ (¬ r = 0 → 0 ≤ (p0 : Int32).toInt ∧ (p0 : Int32).toInt ≤ 11))) 0 0 (fun _ => False) := by
  refine Met.ofW (cc := cX2_has) (maxL := 2) (ret := (some .boolean)) (by decide) rfl ?_
  intro p e s m args below meth c s₁ B hml hv
  obtain ⟨ha, hP, hK⟩ := hv
  have hx := B.exec
  have hb := B.bytes
  have hr := B.returns
  have hts0 := atoms_spec (ws := (.code yX2_has cX2_has 2 (some .boolean) :: wsL_law)) B.pre
  have hts : ∀ w ∈ wsL_law, w.before args s = true := fun w h => hts0 w (List.mem_cons_of_mem _ h)
  have hown : s.vm.findClass RX2 = some m.cls := findClass_of_methodNamed B.named
  have hlocks := B.notSynchronized
  have hP : va_P D vwCl [(wO2 n n_nodes n_kind n_pay n_name n_ways n_held n_targets n_weights)] s.heap := hP
  refine W.eq (g2 := entryFrame m ([.ref n, .int p0] : List Value).toArray 2) (by rw [ha]) ?_
  have hl := lv_entry ([.ref n, .int p0]) (n := 2) (Nat.le_of_ble_eq_true rfl)
  rw [lg_entry_eq]
  generalize (lg_sl ([.ref n, .int p0]) ++ List.replicate (2 - (lg_sl ([.ref n, .int p0])).length) Slot.unset).toArray = ls at hl ⊢
  have hl : lv_has ls 2 [(0, .ref n), (1, .int p0)] := hl
  refine lv_iload_n hx hb dX2_has_0 rfl (lv_at hl 1 rfl) ?_
  refine lv_if_lt (tgt := 16) hx hb dX2_has_1 (by decide) (fun c_59020 => ?_) (fun c_59020 => ?_)
  · skip
    have c_59020_i := Int32.lt_iff_toInt_lt.mp c_59020
    have h_59021 : (-2147483648) ≤ (p0 : Int32).toInt ∧ (p0 : Int32).toInt ≤ (-1) := nr_lt_l (tr_any p0) (⟨by decide, by decide⟩ : 0 ≤ (0 : Int32).toInt ∧ (0 : Int32).toInt ≤ 0) c_59020_i (by decide) (by decide)
    refine lv_iconst (v := 0) hx hb dX2_has_16 (by decide) ?_
    exact W.zret (v := 0) hx hb hr (by decide) (fun t ht hW => ⟨0, rfl, ⟨(⟨by decide, by decide⟩ : 0 ≤ (0 : Int32).toInt ∧ (0 : Int32).toInt ≤ 1), (fun h => absurd rfl h)⟩, ht⟩) (fun _ h => nomatch h) dX2_has_17
  · skip
    have c_59020_i := Int32.le_iff_toInt_le.mp (Int32.not_lt.mp c_59020)
    have h_59022 : 0 ≤ (p0 : Int32).toInt ∧ (p0 : Int32).toInt ≤ 2147483647 := nr_le_r (⟨by decide, by decide⟩ : 0 ≤ (0 : Int32).toInt ∧ (0 : Int32).toInt ≤ 0) (tr_any p0) c_59020_i (by decide) (by decide)
    refine lv_iload_n hx hb dX2_has_4 rfl (lv_at hl 1 rfl) ?_
    refine lv_aload_n hx hb dX2_has_5 rfl (lv_at hl 0 rfl) ?_
    refine va_get (D := D) (ci := 2) (v := .int n_nodes) (C := RX2) (T := TX2) (N := 8) hx hb hts inlX2 hown hK hP 0 rfl rfl 0 (by decide) (hts (Cond.fieldLink RX2 33 "ChanceRings$Net" "nodes" "I") qw_313) (fun _ h9 => h9) rfl dX2_has_6 ?_
    refine lv_icmp_ge (tgt := 16) hx hb dX2_has_9 (by decide) (fun c_59023 => ?_) (fun c_59023 => ?_)
    · skip
      refine lv_iconst (v := 0) hx hb dX2_has_16 (by decide) ?_
      exact W.zret (v := 0) hx hb hr (by decide) (fun t ht hW => ⟨0, rfl, ⟨(⟨by decide, by decide⟩ : 0 ≤ (0 : Int32).toInt ∧ (0 : Int32).toInt ≤ 1), (fun h => absurd rfl h)⟩, ht⟩) (fun _ h => nomatch h) dX2_has_17
    · skip
      have c_59023_i := Int32.lt_iff_toInt_lt.mp (Int32.not_le.mp c_59023)
      have h_59024 : 0 ≤ (p0 : Int32).toInt ∧ (p0 : Int32).toInt ≤ 11 := nr_lt_l h_59022 h_n_nodes c_59023_i (by decide) (by decide)
      have h_59025 : 1 ≤ (n_nodes : Int32).toInt ∧ (n_nodes : Int32).toInt ≤ 12 := nr_lt_r h_59022 h_n_nodes c_59023_i (by decide) (by decide)
      refine lv_iconst (v := 1) hx hb dX2_has_12 (by decide) ?_
      refine lv_goto (tgt := 17) hx hb dX2_has_13 (by decide) ?_
      exact W.zret (v := 1) hx hb hr (by decide) (fun t ht hW => ⟨1, rfl, ⟨(⟨by decide, by decide⟩ : 0 ≤ (1 : Int32).toInt ∧ (1 : Int32).toInt ≤ 1), (fun _ => (tr_w h_59024 (by decide) (by decide)))⟩, ht⟩) (fun _ h => nomatch h) dX2_has_17
set_option maxHeartbeats 4000000 in
set_option maxRecDepth 100000 in
theorem c_X2_canTake (l : Launch) (D : va_G) (g : Nat → ClassId) (n : Nat) (p0 : Int32) (p1 : Int32) (n_nodes : Int32) (n_kind : Nat) (n_pay : Nat) (n_name : Nat) (n_ways : Nat) (n_held : Nat) (n_targets : Nat) (n_weights : Nat) (n_fheld : Nat → Int32) (h_p0 : 0 ≤ (p0 : Int32).toInt ∧ (p0 : Int32).toInt ≤ 11) (h_n_nodes : 0 ≤ (n_nodes : Int32).toInt ∧ (n_nodes : Int32).toInt ≤ 12) (h_n_fheld : ∀ j : Nat, (-1) ≤ (n_fheld j).toInt ∧ (n_fheld j).toInt ≤ 2) : Met l yX2_canTake (.code yX2_canTake cX2_canTake 3 (some .boolean) :: wsL_law) ({ frames := 0, cells := 0, slots := 0, locals := 0 }) (va_Pc [.ref n, .int p0, .int p1] (fun U => va_P D vwCl [(wO2 n n_nodes n_kind n_pay n_name n_ways n_held n_targets n_weights), (wI g n_held 0 12 n_fheld)] U.heap ∧ va_K D vwCl (TY g) U)) (vp_Si (fun r => 0 ≤ (r : Int32).toInt ∧ (r : Int32).toInt ≤ 1)) 0 0 (fun _ => False) := by
  refine Met.ofW (cc := cX2_canTake) (maxL := 3) (ret := (some .boolean)) (by decide) rfl ?_
  intro p e s m args below meth c s₁ B hml hv
  obtain ⟨ha, hP, hK⟩ := hv
  have hx := B.exec
  have hb := B.bytes
  have hr := B.returns
  have hts0 := atoms_spec (ws := (.code yX2_canTake cX2_canTake 3 (some .boolean) :: wsL_law)) B.pre
  have hts : ∀ w ∈ wsL_law, w.before args s = true := fun w h => hts0 w (List.mem_cons_of_mem _ h)
  have hown : s.vm.findClass RX2 = some m.cls := findClass_of_methodNamed B.named
  have hlocks := B.notSynchronized
  have hP : va_P D vwCl [(wO2 n n_nodes n_kind n_pay n_name n_ways n_held n_targets n_weights), (wI g n_held 0 12 n_fheld)] s.heap := hP
  refine W.eq (g2 := entryFrame m ([.ref n, .int p0, .int p1] : List Value).toArray 3) (by rw [ha]) ?_
  have hl := lv_entry ([.ref n, .int p0, .int p1]) (n := 3) (Nat.le_of_ble_eq_true rfl)
  rw [lg_entry_eq]
  generalize (lg_sl ([.ref n, .int p0, .int p1]) ++ List.replicate (3 - (lg_sl ([.ref n, .int p0, .int p1])).length) Slot.unset).toArray = ls at hl ⊢
  have hl : lv_has ls 3 [(0, .ref n), (1, .int p0), (2, .int p1)] := hl
  refine lv_aload_n hx hb dX2_canTake_0 rfl (lv_at hl 0 rfl) ?_
  refine va_get (D := D) (ci := 2) (v := .ref n_held) (C := RX2) (T := TX2) (N := 8) hx hb hts inlX2 hown hK hP 0 rfl rfl 5 (by decide) (hts (Cond.fieldLink RX2 24 "ChanceRings$Net" "held" "[I") qw_314) (fun _ h9 => h9) rfl dX2_canTake_1 ?_
  refine lv_iload_n hx hb dX2_canTake_4 rfl (lv_at hl 1 rfl) ?_
  refine va_iald hx hb hK hP 1 0 rfl rfl (tr_in h_p0 (by decide) (by decide)) dX2_canTake_5 ?_
  refine lv_topi (fun v_59026 v_59026_e => ?_)
  have h_v_59026 : (-1) ≤ (v_59026 : Int32).toInt ∧ (v_59026 : Int32).toInt ≤ 2 := by rw [v_59026_e]; exact h_n_fheld _
  refine lv_iconst (v := (-1)) hx hb dX2_canTake_6 (by decide) ?_
  refine lv_icmp_eq (tgt := 20) hx hb dX2_canTake_7 (by decide) (fun c_59027 => ?_) (fun c_59027 => ?_)
  · skip
    have c_59027_i : (v_59026 : Int32).toInt = ((-1) : Int32).toInt := congrArg Int32.toInt c_59027
    have h_59028 : (-1) ≤ (v_59026 : Int32).toInt ∧ (v_59026 : Int32).toInt ≤ (-1) := nr_eq_l h_v_59026 (⟨by decide, by decide⟩ : (-1) ≤ ((-1) : Int32).toInt ∧ ((-1) : Int32).toInt ≤ (-1)) c_59027_i (by decide) (by decide)
    refine lv_iconst (v := 1) hx hb dX2_canTake_20 (by decide) ?_
    refine lv_goto (tgt := 25) hx hb dX2_canTake_21 (by decide) ?_
    exact W.zret (v := 1) hx hb hr (by decide) (fun t ht hW => ⟨1, rfl, (⟨by decide, by decide⟩ : 0 ≤ (1 : Int32).toInt ∧ (1 : Int32).toInt ≤ 1), ht⟩) (fun _ h => nomatch h) dX2_canTake_25
  · skip
    have c_59027_i : ¬ (v_59026 : Int32).toInt = ((-1) : Int32).toInt := (fun q => c_59027 (Int32.toInt_inj.mp q))
    have h_59029 : 0 ≤ (v_59026 : Int32).toInt ∧ (v_59026 : Int32).toInt ≤ 2 := nr_ne_l h_v_59026 (⟨by decide, by decide⟩ : (-1) ≤ ((-1) : Int32).toInt ∧ ((-1) : Int32).toInt ≤ (-1)) c_59027_i (by decide) (by decide)
    refine lv_aload_n hx hb dX2_canTake_10 rfl (lv_at hl 0 rfl) ?_
    refine va_get (D := D) (ci := 2) (v := .ref n_held) (C := RX2) (T := TX2) (N := 8) hx hb hts inlX2 hown hK hP 0 rfl rfl 5 (by decide) (hts (Cond.fieldLink RX2 24 "ChanceRings$Net" "held" "[I") qw_314) (fun _ h9 => h9) rfl dX2_canTake_11 ?_
    refine lv_iload_n hx hb dX2_canTake_14 rfl (lv_at hl 1 rfl) ?_
    refine va_iald hx hb hK hP 1 0 rfl rfl (tr_in h_p0 (by decide) (by decide)) dX2_canTake_15 ?_
    refine tz_i (y := v_59026) v_59026_e.symm ?_
    refine lv_iload_n hx hb dX2_canTake_16 rfl (lv_at hl 2 rfl) ?_
    refine lv_icmp_ne (tgt := 24) hx hb dX2_canTake_17 (by decide) (fun c_59030 => ?_) (fun c_59030 => ?_)
    · skip
      refine lv_iconst (v := 0) hx hb dX2_canTake_24 (by decide) ?_
      exact W.zret (v := 0) hx hb hr (by decide) (fun t ht hW => ⟨0, rfl, (⟨by decide, by decide⟩ : 0 ≤ (0 : Int32).toInt ∧ (0 : Int32).toInt ≤ 1), ht⟩) (fun _ h => nomatch h) dX2_canTake_25
    · skip
      refine lv_iconst (v := 1) hx hb dX2_canTake_20 (by decide) ?_
      refine lv_goto (tgt := 25) hx hb dX2_canTake_21 (by decide) ?_
      exact W.zret (v := 1) hx hb hr (by decide) (fun t ht hW => ⟨1, rfl, (⟨by decide, by decide⟩ : 0 ≤ (1 : Int32).toInt ∧ (1 : Int32).toInt ≤ 1), ht⟩) (fun _ h => nomatch h) dX2_canTake_25
set_option maxHeartbeats 4000000 in
set_option maxRecDepth 100000 in
theorem c_X2_target (l : Launch) (D : va_G) (g : Nat → ClassId) (n : Nat) (p0 : Int32) (p1 : Int32) (n_nodes : Int32) (n_kind : Nat) (n_pay : Nat) (n_name : Nat) (n_ways : Nat) (n_held : Nat) (n_targets : Nat) (n_weights : Nat) (n_ftargets : Nat → Int32) (h_p0 : 0 ≤ (p0 : Int32).toInt ∧ (p0 : Int32).toInt ≤ 11) (h_p1 : 0 ≤ (p1 : Int32).toInt ∧ (p1 : Int32).toInt ≤ 2) (h_n_nodes : 0 ≤ (n_nodes : Int32).toInt ∧ (n_nodes : Int32).toInt ≤ 12) (h_n_ftargets : ∀ j : Nat, 0 ≤ (n_ftargets j).toInt ∧ (n_ftargets j).toInt ≤ 11) : Met l yX2_target (.code yX2_target cX2_target 3 (some .int) :: wsL_law) ({ frames := 0, cells := 0, slots := 0, locals := 0 }) (va_Pc [.ref n, .int p0, .int p1] (fun U => va_P D vwCl [(wO2 n n_nodes n_kind n_pay n_name n_ways n_held n_targets n_weights), (wI g n_targets 0 36 n_ftargets)] U.heap ∧ va_K D vwCl (TY g) U)) (vp_Si (fun r => 0 ≤ (r : Int32).toInt ∧ (r : Int32).toInt ≤ 11)) 0 0 (fun _ => False) := by
  refine Met.ofW (cc := cX2_target) (maxL := 3) (ret := (some .int)) (by decide) rfl ?_
  intro p e s m args below meth c s₁ B hml hv
  obtain ⟨ha, hP, hK⟩ := hv
  have hx := B.exec
  have hb := B.bytes
  have hr := B.returns
  have hts0 := atoms_spec (ws := (.code yX2_target cX2_target 3 (some .int) :: wsL_law)) B.pre
  have hts : ∀ w ∈ wsL_law, w.before args s = true := fun w h => hts0 w (List.mem_cons_of_mem _ h)
  have hown : s.vm.findClass RX2 = some m.cls := findClass_of_methodNamed B.named
  have hlocks := B.notSynchronized
  have hP : va_P D vwCl [(wO2 n n_nodes n_kind n_pay n_name n_ways n_held n_targets n_weights), (wI g n_targets 0 36 n_ftargets)] s.heap := hP
  refine W.eq (g2 := entryFrame m ([.ref n, .int p0, .int p1] : List Value).toArray 3) (by rw [ha]) ?_
  have hl := lv_entry ([.ref n, .int p0, .int p1]) (n := 3) (Nat.le_of_ble_eq_true rfl)
  rw [lg_entry_eq]
  generalize (lg_sl ([.ref n, .int p0, .int p1]) ++ List.replicate (3 - (lg_sl ([.ref n, .int p0, .int p1])).length) Slot.unset).toArray = ls at hl ⊢
  have hl : lv_has ls 3 [(0, .ref n), (1, .int p0), (2, .int p1)] := hl
  refine lv_aload_n hx hb dX2_target_0 rfl (lv_at hl 0 rfl) ?_
  refine va_get (D := D) (ci := 2) (v := .ref n_targets) (C := RX2) (T := TX2) (N := 8) hx hb hts inlX2 hown hK hP 0 rfl rfl 6 (by decide) (hts (Cond.fieldLink RX2 27 "ChanceRings$Net" "targets" "[I") qw_315) (fun _ h9 => h9) rfl dX2_target_1 ?_
  refine lv_iload_n hx hb dX2_target_4 rfl (lv_at hl 1 rfl) ?_
  refine lv_iconst (v := 3) hx hb dX2_target_5 (by decide) ?_
  refine lv_imul hx hb dX2_target_6 ?_
  refine lv_topi (fun v_59031 v_59031_e => ?_)
  have h_v_59031 : 0 ≤ (v_59031 : Int32).toInt ∧ (v_59031 : Int32).toInt ≤ 33 := by rw [v_59031_e]; exact tr_mul h_p0 (⟨by decide, by decide⟩ : 3 ≤ (3 : Int32).toInt ∧ (3 : Int32).toInt ≤ 3) (by decide) (by decide) (by decide) (by decide)
  refine lv_iload_n hx hb dX2_target_7 rfl (lv_at hl 2 rfl) ?_
  refine lv_iadd hx hb dX2_target_8 ?_
  refine lv_topi (fun v_59032 v_59032_e => ?_)
  have h_v_59032 : 0 ≤ (v_59032 : Int32).toInt ∧ (v_59032 : Int32).toInt ≤ 35 := by rw [v_59032_e]; exact tr_add h_v_59031 h_p1 (by decide) (by decide) (by decide) (by decide)
  refine va_iald hx hb hK hP 1 0 rfl rfl (tr_in h_v_59032 (by decide) (by decide)) dX2_target_9 ?_
  refine lv_topi (fun v_59033 v_59033_e => ?_)
  have h_v_59033 : 0 ≤ (v_59033 : Int32).toInt ∧ (v_59033 : Int32).toInt ≤ 11 := by rw [v_59033_e]; exact h_n_ftargets _
  exact W.iret (v := v_59033) hx hb hr (fun t ht hW => ⟨v_59033, rfl, (tr_w h_v_59033 (by decide) (by decide)), ht⟩) (fun _ h => nomatch h) dX2_target_10
set_option maxHeartbeats 4000000 in
set_option maxRecDepth 100000 in
theorem c_X2_payingEnds (l : Launch) (D : va_G) (g : Nat → ClassId) (n : Nat) (n_nodes : Int32) (n_kind : Nat) (n_pay : Nat) (n_name : Nat) (n_ways : Nat) (n_held : Nat) (n_targets : Nat) (n_weights : Nat) (n_fkind : Nat → Int32) (n_fpay : Nat → Int32) (h_n_nodes : 0 ≤ (n_nodes : Int32).toInt ∧ (n_nodes : Int32).toInt ≤ 12) (h_n_fkind : ∀ j : Nat, 0 ≤ (n_fkind j).toInt ∧ (n_fkind j).toInt ≤ 3) : Met l yX2_payingEnds (.code yX2_payingEnds cX2_payingEnds 3 (some .int) :: wsL_law) ({ frames := 0, cells := 0, slots := 0, locals := 0 }) (va_Pc [.ref n] (fun U => va_P D vwCl [(wO2 n n_nodes n_kind n_pay n_name n_ways n_held n_targets n_weights), (wI g n_kind 0 12 n_fkind), (wI g n_pay 0 12 n_fpay)] U.heap ∧ va_K D vwCl (TY g) U)) (vp_Si (fun r => True)) 0 0 (fun _ => False) := by
  refine Met.ofW (cc := cX2_payingEnds) (maxL := 3) (ret := (some .int)) (by decide) rfl ?_
  intro p e s m args below meth c s₁ B hml hv
  obtain ⟨ha, hP, hK⟩ := hv
  have hx := B.exec
  have hb := B.bytes
  have hr := B.returns
  have hts0 := atoms_spec (ws := (.code yX2_payingEnds cX2_payingEnds 3 (some .int) :: wsL_law)) B.pre
  have hts : ∀ w ∈ wsL_law, w.before args s = true := fun w h => hts0 w (List.mem_cons_of_mem _ h)
  have hown : s.vm.findClass RX2 = some m.cls := findClass_of_methodNamed B.named
  have hlocks := B.notSynchronized
  have hP : va_P D vwCl [(wO2 n n_nodes n_kind n_pay n_name n_ways n_held n_targets n_weights), (wI g n_kind 0 12 n_fkind), (wI g n_pay 0 12 n_fpay)] s.heap := hP
  refine W.eq (g2 := entryFrame m ([.ref n] : List Value).toArray 3) (by rw [ha]) ?_
  have hl := lv_entry ([.ref n]) (n := 3) (Nat.le_of_ble_eq_true rfl)
  rw [lg_entry_eq]
  generalize (lg_sl ([.ref n]) ++ List.replicate (3 - (lg_sl ([.ref n])).length) Slot.unset).toArray = ls at hl ⊢
  have hl : lv_has ls 3 [(0, .ref n)] := hl
  refine lv_iconst (v := 0) hx hb dX2_payingEnds_0 (by decide) ?_
  refine lv_istore_n (lv' := [(1, .int 0), (0, .ref n)]) hx hb dX2_payingEnds_1 rfl hl (by decide) rfl (fun ls hl => ?_)
  refine lv_iconst (v := 0) hx hb dX2_payingEnds_2 (by decide) ?_
  refine lv_istore_n (lv' := [(2, .int 0), (1, .int 0), (0, .ref n)]) hx hb dX2_payingEnds_3 rfl hl (by decide) rfl (fun ls hl => ?_)
  have lp_59173 : ∀ (n_59173 : Nat) (x_59171 : Int32) (x_59172 : Int32) (ls : Array Slot), (0 ≤ (x_59171 : Int32).toInt ∧ (x_59171 : Int32).toInt ≤ 12) → (12 - x_59171.toInt < (n_59173 : Int)) → lv_has ls 3 [(2, .int x_59171), (1, .int x_59172), (0, .ref n)] → W p l e (headSpec (.code yX2_payingEnds cX2_payingEnds 3 (some .int) :: wsL_law) ({ frames := 0, cells := 0, slots := 0, locals := 0 })).room s m args below meth c s.heap [] 0 0 (MQ below (vp_Si (fun r => True)) args s 0 0 (fun _ => False)) (F0 m 4 ls []) := by
    intro n_59173
    induction n_59173 with
    | zero =>
      intro x_59171 x_59172 ls h_x_59171 hm_59173 hl
      exfalso; omega
    | succ n_59173 ih_59173 =>
      intro x_59171 x_59172 ls h_x_59171 hm_59173 hl
      refine lv_iload_n hx hb dX2_payingEnds_4 rfl (lv_at hl 0 rfl) ?_
      refine lv_aload_n hx hb dX2_payingEnds_5 rfl (lv_at hl 2 rfl) ?_
      refine va_get (D := D) (ci := 2) (v := .int n_nodes) (C := RX2) (T := TX2) (N := 8) hx hb hts inlX2 hown hK hP 0 rfl rfl 0 (by decide) (hts (Cond.fieldLink RX2 33 "ChanceRings$Net" "nodes" "I") qw_313) (fun _ h9 => h9) rfl dX2_payingEnds_6 ?_
      refine lv_icmp_ge (tgt := 42) hx hb dX2_payingEnds_9 (by decide) (fun c_59174 => ?_) (fun c_59174 => ?_)
      · skip
        refine lv_iload_n hx hb dX2_payingEnds_42 rfl (lv_at hl 1 rfl) ?_
        exact W.iret (v := x_59172) hx hb hr (fun t ht hW => ⟨x_59172, rfl, trivial, ht⟩) (fun _ h => nomatch h) dX2_payingEnds_43
      · skip
        have c_59174_i := Int32.lt_iff_toInt_lt.mp (Int32.not_le.mp c_59174)
        have h_59175 : 0 ≤ (x_59171 : Int32).toInt ∧ (x_59171 : Int32).toInt ≤ 11 := nr_lt_l h_x_59171 h_n_nodes c_59174_i (by decide) (by decide)
        have h_59176 : 1 ≤ (n_nodes : Int32).toInt ∧ (n_nodes : Int32).toInt ≤ 12 := nr_lt_r h_x_59171 h_n_nodes c_59174_i (by decide) (by decide)
        refine lv_aload_n hx hb dX2_payingEnds_12 rfl (lv_at hl 2 rfl) ?_
        refine va_get (D := D) (ci := 2) (v := .ref n_kind) (C := RX2) (T := TX2) (N := 8) hx hb hts inlX2 hown hK hP 0 rfl rfl 1 (by decide) (hts (Cond.fieldLink RX2 9 "ChanceRings$Net" "kind" "[I") qw_316) (fun _ h9 => h9) rfl dX2_payingEnds_13 ?_
        refine lv_iload_n hx hb dX2_payingEnds_16 rfl (lv_at hl 0 rfl) ?_
        refine va_iald hx hb hK hP 1 0 rfl rfl (tr_in h_59175 (by decide) (by decide)) dX2_payingEnds_17 ?_
        refine lv_topi (fun v_59177 v_59177_e => ?_)
        have h_v_59177 : 0 ≤ (v_59177 : Int32).toInt ∧ (v_59177 : Int32).toInt ≤ 3 := by rw [v_59177_e]; exact h_n_fkind _
        refine lv_if_ne (tgt := 36) hx hb dX2_payingEnds_18 (by decide) (fun c_59178 => ?_) (fun c_59178 => ?_)
        · skip
          have c_59178_i : ¬ (v_59177 : Int32).toInt = (0 : Int32).toInt := (fun q => c_59178 (Int32.toInt_inj.mp q))
          have h_59179 : 1 ≤ (v_59177 : Int32).toInt ∧ (v_59177 : Int32).toInt ≤ 3 := nr_ne_l h_v_59177 (⟨by decide, by decide⟩ : 0 ≤ (0 : Int32).toInt ∧ (0 : Int32).toInt ≤ 0) c_59178_i (by decide) (by decide)
          obtain ⟨v_59181, v_59181_e⟩ : ∃ y : Int32, y = x_59171 + Int32.ofInt 1 := ⟨_, rfl⟩
          have h_v_59181 : 1 ≤ (v_59181 : Int32).toInt ∧ (v_59181 : Int32).toInt ≤ 12 := by rw [v_59181_e]; exact tr_add h_59175 (⟨by decide, by decide⟩ : 1 ≤ (Int32.ofInt 1 : Int32).toInt ∧ (Int32.ofInt 1 : Int32).toInt ≤ 1) (by decide) (by decide) (by decide) (by decide)
          have q_v_59181 : v_59181.toInt = x_59171.toInt + 1 := by rw [v_59181_e]; exact tr_addE h_59175 (⟨by decide, by decide⟩ : 1 ≤ (Int32.ofInt 1 : Int32).toInt ∧ (Int32.ofInt 1 : Int32).toInt ≤ 1) (by decide) (by decide)
          refine lv_iinc (v := v_59181) (lv' := [(2, .int v_59181), (1, .int x_59172), (0, .ref n)]) hx hb dX2_payingEnds_36 hl (k := 0) rfl v_59181_e.symm (by decide) rfl (fun ls hl => ?_)
          refine lv_goto (tgt := 4) hx hb dX2_payingEnds_39 (by decide) ?_
          exact ih_59173 v_59181 x_59172 ls (tr_w h_v_59181 (by decide) (by decide)) (by omega) (lv_sub hl [0, 1, 2] rfl)
        · skip
          have c_59178_i : (v_59177 : Int32).toInt = (0 : Int32).toInt := congrArg Int32.toInt c_59178
          have h_59180 : 0 ≤ (v_59177 : Int32).toInt ∧ (v_59177 : Int32).toInt ≤ 0 := nr_eq_l h_v_59177 (⟨by decide, by decide⟩ : 0 ≤ (0 : Int32).toInt ∧ (0 : Int32).toInt ≤ 0) c_59178_i (by decide) (by decide)
          refine lv_aload_n hx hb dX2_payingEnds_21 rfl (lv_at hl 2 rfl) ?_
          refine va_get (D := D) (ci := 2) (v := .ref n_pay) (C := RX2) (T := TX2) (N := 8) hx hb hts inlX2 hown hK hP 0 rfl rfl 2 (by decide) (hts (Cond.fieldLink RX2 15 "ChanceRings$Net" "pay" "[I") qw_317) (fun _ h9 => h9) rfl dX2_payingEnds_22 ?_
          refine lv_iload_n hx hb dX2_payingEnds_25 rfl (lv_at hl 0 rfl) ?_
          refine va_iald hx hb hK hP 2 0 rfl rfl (tr_in h_59175 (by decide) (by decide)) dX2_payingEnds_26 ?_
          refine lv_topi (fun v_59182 v_59182_e => ?_)
          refine lv_if_le (tgt := 36) hx hb dX2_payingEnds_27 (by decide) (fun c_59183 => ?_) (fun c_59183 => ?_)
          · skip
            have c_59183_i := Int32.le_iff_toInt_le.mp c_59183
            have h_59184 : (-2147483648) ≤ (v_59182 : Int32).toInt ∧ (v_59182 : Int32).toInt ≤ 0 := nr_le_l (tr_any v_59182) (⟨by decide, by decide⟩ : 0 ≤ (0 : Int32).toInt ∧ (0 : Int32).toInt ≤ 0) c_59183_i (by decide) (by decide)
            obtain ⟨v_59186, v_59186_e⟩ : ∃ y : Int32, y = x_59171 + Int32.ofInt 1 := ⟨_, rfl⟩
            have h_v_59186 : 1 ≤ (v_59186 : Int32).toInt ∧ (v_59186 : Int32).toInt ≤ 12 := by rw [v_59186_e]; exact tr_add h_59175 (⟨by decide, by decide⟩ : 1 ≤ (Int32.ofInt 1 : Int32).toInt ∧ (Int32.ofInt 1 : Int32).toInt ≤ 1) (by decide) (by decide) (by decide) (by decide)
            have q_v_59186 : v_59186.toInt = x_59171.toInt + 1 := by rw [v_59186_e]; exact tr_addE h_59175 (⟨by decide, by decide⟩ : 1 ≤ (Int32.ofInt 1 : Int32).toInt ∧ (Int32.ofInt 1 : Int32).toInt ≤ 1) (by decide) (by decide)
            refine lv_iinc (v := v_59186) (lv' := [(2, .int v_59186), (1, .int x_59172), (0, .ref n)]) hx hb dX2_payingEnds_36 hl (k := 0) rfl v_59186_e.symm (by decide) rfl (fun ls hl => ?_)
            refine lv_goto (tgt := 4) hx hb dX2_payingEnds_39 (by decide) ?_
            exact ih_59173 v_59186 x_59172 ls (tr_w h_v_59186 (by decide) (by decide)) (by (first | (clear h_v_59177 c_59178_i h_59180 c_59183_i h_59184; omega) | omega)) (lv_sub hl [0, 1, 2] rfl)
          · skip
            have c_59183_i := Int32.lt_iff_toInt_lt.mp (Int32.not_le.mp c_59183)
            have h_59185 : 1 ≤ (v_59182 : Int32).toInt ∧ (v_59182 : Int32).toInt ≤ 2147483647 := nr_lt_r (⟨by decide, by decide⟩ : 0 ≤ (0 : Int32).toInt ∧ (0 : Int32).toInt ≤ 0) (tr_any v_59182) c_59183_i (by decide) (by decide)
            refine lv_iload_n hx hb dX2_payingEnds_30 rfl (lv_at hl 1 rfl) ?_
            refine lv_iconst (v := 1) hx hb dX2_payingEnds_31 (by decide) ?_
            refine lv_iload_n hx hb dX2_payingEnds_32 rfl (lv_at hl 0 rfl) ?_
            refine lv_ishl hx hb dX2_payingEnds_33 ?_
            refine lv_topi (fun v_59187 v_59187_e => ?_)
            refine lv_ior hx hb dX2_payingEnds_34 ?_
            refine lv_topi (fun v_59188 v_59188_e => ?_)
            refine lv_istore_n (lv' := [(1, .int v_59188), (2, .int x_59171), (0, .ref n)]) hx hb dX2_payingEnds_35 rfl hl (by decide) rfl (fun ls hl => ?_)
            obtain ⟨v_59189, v_59189_e⟩ : ∃ y : Int32, y = x_59171 + Int32.ofInt 1 := ⟨_, rfl⟩
            have h_v_59189 : 1 ≤ (v_59189 : Int32).toInt ∧ (v_59189 : Int32).toInt ≤ 12 := by rw [v_59189_e]; exact tr_add h_59175 (⟨by decide, by decide⟩ : 1 ≤ (Int32.ofInt 1 : Int32).toInt ∧ (Int32.ofInt 1 : Int32).toInt ≤ 1) (by decide) (by decide) (by decide) (by decide)
            have q_v_59189 : v_59189.toInt = x_59171.toInt + 1 := by rw [v_59189_e]; exact tr_addE h_59175 (⟨by decide, by decide⟩ : 1 ≤ (Int32.ofInt 1 : Int32).toInt ∧ (Int32.ofInt 1 : Int32).toInt ≤ 1) (by decide) (by decide)
            refine lv_iinc (v := v_59189) (lv' := [(2, .int v_59189), (1, .int v_59188), (0, .ref n)]) hx hb dX2_payingEnds_36 hl (k := 1) rfl v_59189_e.symm (by decide) rfl (fun ls hl => ?_)
            refine lv_goto (tgt := 4) hx hb dX2_payingEnds_39 (by decide) ?_
            exact ih_59173 v_59189 v_59188 ls (tr_w h_v_59189 (by decide) (by decide)) (by (first | (clear h_v_59177 c_59178_i h_59180 c_59183_i h_59185; omega) | omega)) (lv_sub hl [0, 1, 2] rfl)
  exact lp_59173 13 0 0 ls (⟨by decide, by decide⟩ : 0 ≤ (0 : Int32).toInt ∧ (0 : Int32).toInt ≤ 12) (by decide) (lv_sub hl [0, 1, 2] rfl)
set_option maxHeartbeats 4000000 in
set_option maxRecDepth 100000 in
theorem c_X2_nextNodes (l : Launch) (D : va_G) (g : Nat → ClassId) (n : Nat) (p0 : Int32) (n_nodes : Int32) (n_kind : Nat) (n_pay : Nat) (n_name : Nat) (n_ways : Nat) (n_held : Nat) (n_targets : Nat) (n_weights : Nat) (n_fways : Nat → Int32) (n_fheld : Nat → Int32) (n_ftargets : Nat → Int32) (h_p0 : 0 ≤ (p0 : Int32).toInt ∧ (p0 : Int32).toInt ≤ 11) (h_n_nodes : 0 ≤ (n_nodes : Int32).toInt ∧ (n_nodes : Int32).toInt ≤ 12) (h_n_fways : ∀ j : Nat, 0 ≤ (n_fways j).toInt ∧ (n_fways j).toInt ≤ 3) (h_n_fheld : ∀ j : Nat, (-1) ≤ (n_fheld j).toInt ∧ (n_fheld j).toInt ≤ 2) (h_n_ftargets : ∀ j : Nat, 0 ≤ (n_ftargets j).toInt ∧ (n_ftargets j).toInt ≤ 11) : Met l yX2_nextNodes (.code yX2_nextNodes cX2_nextNodes 4 (some .int) :: wsL_law) ({ frames := 1, cells := 0, slots := 0, locals := 22 }) (va_Pc [.ref n, .int p0] (fun U => va_P D vwCl [(wO2 n n_nodes n_kind n_pay n_name n_ways n_held n_targets n_weights), (wI g n_ways 0 12 n_fways), (wI g n_held 0 12 n_fheld), (wI g n_targets 0 36 n_ftargets)] U.heap ∧ va_K D vwCl (TY g) U)) (vp_Si (fun r => True)) 0 0 (fun _ => False) := by
  refine Met.ofW (cc := cX2_nextNodes) (maxL := 4) (ret := (some .int)) (by decide) rfl ?_
  intro p e s m args below meth c s₁ B hml hv
  obtain ⟨ha, hP, hK⟩ := hv
  have hx := B.exec
  have hb := B.bytes
  have hr := B.returns
  have hts0 := atoms_spec (ws := (.code yX2_nextNodes cX2_nextNodes 4 (some .int) :: wsL_law)) B.pre
  have hts : ∀ w ∈ wsL_law, w.before args s = true := fun w h => hts0 w (List.mem_cons_of_mem _ h)
  have hown : s.vm.findClass RX2 = some m.cls := findClass_of_methodNamed B.named
  have hlocks := B.notSynchronized
  have hP : va_P D vwCl [(wO2 n n_nodes n_kind n_pay n_name n_ways n_held n_targets n_weights), (wI g n_ways 0 12 n_fways), (wI g n_held 0 12 n_fheld), (wI g n_targets 0 36 n_ftargets)] s.heap := hP
  refine W.eq (g2 := entryFrame m ([.ref n, .int p0] : List Value).toArray 4) (by rw [ha]) ?_
  have hl := lv_entry ([.ref n, .int p0]) (n := 4) (Nat.le_of_ble_eq_true rfl)
  rw [lg_entry_eq]
  generalize (lg_sl ([.ref n, .int p0]) ++ List.replicate (4 - (lg_sl ([.ref n, .int p0])).length) Slot.unset).toArray = ls at hl ⊢
  have hl : lv_has ls 4 [(0, .ref n), (1, .int p0)] := hl
  refine lv_iconst (v := 0) hx hb dX2_nextNodes_0 (by decide) ?_
  refine lv_istore_n (lv' := [(2, .int 0), (0, .ref n), (1, .int p0)]) hx hb dX2_nextNodes_1 rfl hl (by decide) rfl (fun ls hl => ?_)
  refine lv_iconst (v := 0) hx hb dX2_nextNodes_2 (by decide) ?_
  refine lv_istore_n (lv' := [(3, .int 0), (2, .int 0), (0, .ref n), (1, .int p0)]) hx hb dX2_nextNodes_3 rfl hl (by decide) rfl (fun ls hl => ?_)
  have lp_59256 : ∀ (n_59256 : Nat) (x_59254 : Int32) (x_59255 : Int32) (ls : Array Slot), (0 ≤ (x_59254 : Int32).toInt ∧ (x_59254 : Int32).toInt ≤ 3) → (3 - x_59254.toInt < (n_59256 : Int)) → lv_has ls 4 [(3, .int x_59254), (2, .int x_59255), (0, .ref n), (1, .int p0)] → W p l e (headSpec (.code yX2_nextNodes cX2_nextNodes 4 (some .int) :: wsL_law) ({ frames := 1, cells := 0, slots := 0, locals := 22 })).room s m args below meth c s.heap [] 0 0 (MQ below (vp_Si (fun r => True)) args s 0 0 (fun _ => False)) (F0 m 4 ls []) := by
    intro n_59256
    induction n_59256 with
    | zero =>
      intro x_59254 x_59255 ls h_x_59254 hm_59256 hl
      exfalso; omega
    | succ n_59256 ih_59256 =>
      intro x_59254 x_59255 ls h_x_59254 hm_59256 hl
      refine lv_iload_n hx hb dX2_nextNodes_4 rfl (lv_at hl 0 rfl) ?_
      refine lv_aload_n hx hb dX2_nextNodes_5 rfl (lv_at hl 2 rfl) ?_
      refine va_get (D := D) (ci := 2) (v := .ref n_ways) (C := RX2) (T := TX2) (N := 8) hx hb hts inlX2 hown hK hP 0 rfl rfl 4 (by decide) (hts (Cond.fieldLink RX2 21 "ChanceRings$Net" "ways" "[I") qw_318) (fun _ h9 => h9) rfl dX2_nextNodes_6 ?_
      refine lv_iload_n hx hb dX2_nextNodes_9 rfl (lv_at hl 3 rfl) ?_
      refine va_iald hx hb hK hP 1 0 rfl rfl (tr_in h_p0 (by decide) (by decide)) dX2_nextNodes_10 ?_
      refine lv_topi (fun v_59257 v_59257_e => ?_)
      have h_v_59257 : 0 ≤ (v_59257 : Int32).toInt ∧ (v_59257 : Int32).toInt ≤ 3 := by rw [v_59257_e]; exact h_n_fways _
      refine lv_icmp_ge (tgt := 40) hx hb dX2_nextNodes_11 (by decide) (fun c_59258 => ?_) (fun c_59258 => ?_)
      · skip
        refine lv_iload_n hx hb dX2_nextNodes_40 rfl (lv_at hl 1 rfl) ?_
        exact W.iret (v := x_59255) hx hb hr (fun t ht hW => ⟨x_59255, rfl, trivial, ht⟩) (fun _ h => nomatch h) dX2_nextNodes_41
      · skip
        have c_59258_i := Int32.lt_iff_toInt_lt.mp (Int32.not_le.mp c_59258)
        have h_59259 : 0 ≤ (x_59254 : Int32).toInt ∧ (x_59254 : Int32).toInt ≤ 2 := nr_lt_l h_x_59254 h_v_59257 c_59258_i (by decide) (by decide)
        have h_59260 : 1 ≤ (v_59257 : Int32).toInt ∧ (v_59257 : Int32).toInt ≤ 3 := nr_lt_r h_x_59254 h_v_59257 c_59258_i (by decide) (by decide)
        refine lv_aload_n hx hb dX2_nextNodes_14 rfl (lv_at hl 2 rfl) ?_
        refine lv_iload_n hx hb dX2_nextNodes_15 rfl (lv_at hl 3 rfl) ?_
        refine lv_iload_n hx hb dX2_nextNodes_16 rfl (lv_at hl 0 rfl) ?_
        have hPc := hP.sub (ws' := [(wO2 n n_nodes n_kind n_pay n_name n_ways n_held n_targets n_weights), (wI g n_held 0 12 n_fheld)]) [0, 2] rfl
        refine vp_callSi (va_Run.run (va_runV (As := [.int p0, .int x_59254]) (rest := []) ⟨hx, hb, hml, hown, hts⟩ (c_X2_canTake l D g n p0 x_59254 n_nodes n_kind n_pay n_name n_ways n_held n_targets n_weights n_fheld (tr_w h_p0 (by decide) (by decide)) (tr_w h_n_nodes (by decide) (by decide)) (tr_wa h_n_fheld (by decide) (by decide))) (cwV 2 hts (tz_gV qw_319 qw_320 qw_321 qw_322 qw_323) rfl rfl rfl (by decide +kernel) ⟨Nat.le_of_ble_eq_true rfl, Nat.le_of_ble_eq_true rfl⟩) ⟨tz_blS, va_recv hK hPc (ci := 2) (q0 := 0) rfl rfl, tz_preS hPc hK⟩ rfl rfl hl.1 rfl (lv_room (Nat.le_of_ble_eq_true rfl)) dX2_nextNodes_17 ⟨Nat.le_of_ble_eq_true rfl, Nat.le_of_ble_eq_true rfl⟩)) (fun r_59261 hw => ?_)
        have hw_59262 : 0 ≤ (r_59261 : Int32).toInt ∧ (r_59261 : Int32).toInt ≤ 1 := hw
        refine lv_if_eq (tgt := 34) hx hb dX2_nextNodes_20 (by decide) (fun c_59263 => ?_) (fun c_59263 => ?_)
        · skip
          have c_59263_i : (r_59261 : Int32).toInt = (0 : Int32).toInt := congrArg Int32.toInt c_59263
          have h_59264 : 0 ≤ (r_59261 : Int32).toInt ∧ (r_59261 : Int32).toInt ≤ 0 := nr_eq_l hw_59262 (⟨by decide, by decide⟩ : 0 ≤ (0 : Int32).toInt ∧ (0 : Int32).toInt ≤ 0) c_59263_i (by decide) (by decide)
          obtain ⟨v_59266, v_59266_e⟩ : ∃ y : Int32, y = x_59254 + Int32.ofInt 1 := ⟨_, rfl⟩
          have h_v_59266 : 1 ≤ (v_59266 : Int32).toInt ∧ (v_59266 : Int32).toInt ≤ 3 := by rw [v_59266_e]; exact tr_add h_59259 (⟨by decide, by decide⟩ : 1 ≤ (Int32.ofInt 1 : Int32).toInt ∧ (Int32.ofInt 1 : Int32).toInt ≤ 1) (by decide) (by decide) (by decide) (by decide)
          have q_v_59266 : v_59266.toInt = x_59254.toInt + 1 := by rw [v_59266_e]; exact tr_addE h_59259 (⟨by decide, by decide⟩ : 1 ≤ (Int32.ofInt 1 : Int32).toInt ∧ (Int32.ofInt 1 : Int32).toInt ≤ 1) (by decide) (by decide)
          refine lv_iinc (v := v_59266) (lv' := [(3, .int v_59266), (2, .int x_59255), (0, .ref n), (1, .int p0)]) hx hb dX2_nextNodes_34 hl (k := 0) rfl v_59266_e.symm (by decide) rfl (fun ls hl => ?_)
          refine lv_goto (tgt := 4) hx hb dX2_nextNodes_37 (by decide) ?_
          exact ih_59256 v_59266 x_59255 ls (tr_w h_v_59266 (by decide) (by decide)) (by (first | (clear h_p0 h_n_nodes hw_59262 c_59263_i h_59264; omega) | omega)) (lv_sub hl [0, 1, 2, 3] rfl)
        · skip
          have c_59263_i : ¬ (r_59261 : Int32).toInt = (0 : Int32).toInt := (fun q => c_59263 (Int32.toInt_inj.mp q))
          have h_59265 : 1 ≤ (r_59261 : Int32).toInt ∧ (r_59261 : Int32).toInt ≤ 1 := nr_ne_l hw_59262 (⟨by decide, by decide⟩ : 0 ≤ (0 : Int32).toInt ∧ (0 : Int32).toInt ≤ 0) c_59263_i (by decide) (by decide)
          refine lv_iload_n hx hb dX2_nextNodes_23 rfl (lv_at hl 1 rfl) ?_
          refine lv_iconst (v := 1) hx hb dX2_nextNodes_24 (by decide) ?_
          refine lv_aload_n hx hb dX2_nextNodes_25 rfl (lv_at hl 2 rfl) ?_
          refine lv_iload_n hx hb dX2_nextNodes_26 rfl (lv_at hl 3 rfl) ?_
          refine lv_iload_n hx hb dX2_nextNodes_27 rfl (lv_at hl 0 rfl) ?_
          have hPc := hP.sub (ws' := [(wO2 n n_nodes n_kind n_pay n_name n_ways n_held n_targets n_weights), (wI g n_targets 0 36 n_ftargets)]) [0, 3] rfl
          refine vp_callSi (va_Run.run (va_runV (As := [.int p0, .int x_59254]) (rest := [.int 1, .int x_59255]) ⟨hx, hb, hml, hown, hts⟩ (c_X2_target l D g n p0 x_59254 n_nodes n_kind n_pay n_name n_ways n_held n_targets n_weights n_ftargets (tr_w h_p0 (by decide) (by decide)) (tr_w h_59259 (by decide) (by decide)) (tr_w h_n_nodes (by decide) (by decide)) (tr_wa h_n_ftargets (by decide) (by decide))) (cwV 2 hts (tz_gV qw_324 qw_325 qw_326 qw_322 qw_327) rfl rfl rfl (by decide +kernel) ⟨Nat.le_of_ble_eq_true rfl, Nat.le_of_ble_eq_true rfl⟩) ⟨tz_blS, va_recv hK hPc (ci := 2) (q0 := 0) rfl rfl, tz_preS hPc hK⟩ rfl rfl hl.1 rfl (lv_room (Nat.le_of_ble_eq_true rfl)) dX2_nextNodes_28 ⟨Nat.le_of_ble_eq_true rfl, Nat.le_of_ble_eq_true rfl⟩)) (fun r_59267 hw => ?_)
          have hw_59268 : 0 ≤ (r_59267 : Int32).toInt ∧ (r_59267 : Int32).toInt ≤ 11 := hw
          refine lv_ishl hx hb dX2_nextNodes_31 ?_
          refine lv_topi (fun v_59269 v_59269_e => ?_)
          refine lv_ior hx hb dX2_nextNodes_32 ?_
          refine lv_topi (fun v_59270 v_59270_e => ?_)
          refine lv_istore_n (lv' := [(2, .int v_59270), (3, .int x_59254), (0, .ref n), (1, .int p0)]) hx hb dX2_nextNodes_33 rfl hl (by decide) rfl (fun ls hl => ?_)
          obtain ⟨v_59271, v_59271_e⟩ : ∃ y : Int32, y = x_59254 + Int32.ofInt 1 := ⟨_, rfl⟩
          have h_v_59271 : 1 ≤ (v_59271 : Int32).toInt ∧ (v_59271 : Int32).toInt ≤ 3 := by rw [v_59271_e]; exact tr_add h_59259 (⟨by decide, by decide⟩ : 1 ≤ (Int32.ofInt 1 : Int32).toInt ∧ (Int32.ofInt 1 : Int32).toInt ≤ 1) (by decide) (by decide) (by decide) (by decide)
          have q_v_59271 : v_59271.toInt = x_59254.toInt + 1 := by rw [v_59271_e]; exact tr_addE h_59259 (⟨by decide, by decide⟩ : 1 ≤ (Int32.ofInt 1 : Int32).toInt ∧ (Int32.ofInt 1 : Int32).toInt ≤ 1) (by decide) (by decide)
          refine lv_iinc (v := v_59271) (lv' := [(3, .int v_59271), (2, .int v_59270), (0, .ref n), (1, .int p0)]) hx hb dX2_nextNodes_34 hl (k := 1) rfl v_59271_e.symm (by decide) rfl (fun ls hl => ?_)
          refine lv_goto (tgt := 4) hx hb dX2_nextNodes_37 (by decide) ?_
          exact ih_59256 v_59271 v_59270 ls (tr_w h_v_59271 (by decide) (by decide)) (by (first | (clear h_p0 h_n_nodes hw_59262 c_59263_i h_59265 hw_59268; omega) | omega)) (lv_sub hl [0, 1, 2, 3] rfl)
  exact lp_59256 4 0 0 ls (⟨by decide, by decide⟩ : 0 ≤ (0 : Int32).toInt ∧ (0 : Int32).toInt ≤ 3) (by decide) (lv_sub hl [0, 1, 2, 3] rfl)
set_option maxHeartbeats 4000000 in
set_option maxRecDepth 100000 in
theorem c_X2_hasWay (l : Launch) (D : va_G) (g : Nat → ClassId) (n : Nat) (p0 : Int32) (p1 : Int32) (n_nodes : Int32) (n_kind : Nat) (n_pay : Nat) (n_name : Nat) (n_ways : Nat) (n_held : Nat) (n_targets : Nat) (n_weights : Nat) (n_fways : Nat → Int32) (h_n_nodes : 0 ≤ (n_nodes : Int32).toInt ∧ (n_nodes : Int32).toInt ≤ 12) (h_n_fways : ∀ j : Nat, 0 ≤ (n_fways j).toInt ∧ (n_fways j).toInt ≤ 3) : Met l yX2_hasWay (.code yX2_hasWay cX2_hasWay 3 (some .boolean) :: wsL_law) ({ frames := 1, cells := 0, slots := 0, locals := 21 }) (va_Pc [.ref n, .int p0, .int p1] (fun U => va_P D vwCl [(wO2 n n_nodes n_kind n_pay n_name n_ways n_held n_targets n_weights), (wI g n_ways 0 12 n_fways)] U.heap ∧ va_K D vwCl (TY g) U)) (vp_Si (fun r => (0 ≤ (r : Int32).toInt ∧ (r : Int32).toInt ≤ 1) ∧ (¬ r = 0 → 0 ≤ (p0 : Int32).toInt ∧ (p0 : Int32).toInt ≤ 11))) 0 0 (fun _ => False) := by
  refine Met.ofW (cc := cX2_hasWay) (maxL := 3) (ret := (some .boolean)) (by decide) rfl ?_
  intro p e s m args below meth c s₁ B hml hv
  obtain ⟨ha, hP, hK⟩ := hv
  have hx := B.exec
  have hb := B.bytes
  have hr := B.returns
  have hts0 := atoms_spec (ws := (.code yX2_hasWay cX2_hasWay 3 (some .boolean) :: wsL_law)) B.pre
  have hts : ∀ w ∈ wsL_law, w.before args s = true := fun w h => hts0 w (List.mem_cons_of_mem _ h)
  have hown : s.vm.findClass RX2 = some m.cls := findClass_of_methodNamed B.named
  have hlocks := B.notSynchronized
  have hP : va_P D vwCl [(wO2 n n_nodes n_kind n_pay n_name n_ways n_held n_targets n_weights), (wI g n_ways 0 12 n_fways)] s.heap := hP
  refine W.eq (g2 := entryFrame m ([.ref n, .int p0, .int p1] : List Value).toArray 3) (by rw [ha]) ?_
  have hl := lv_entry ([.ref n, .int p0, .int p1]) (n := 3) (Nat.le_of_ble_eq_true rfl)
  rw [lg_entry_eq]
  generalize (lg_sl ([.ref n, .int p0, .int p1]) ++ List.replicate (3 - (lg_sl ([.ref n, .int p0, .int p1])).length) Slot.unset).toArray = ls at hl ⊢
  have hl : lv_has ls 3 [(0, .ref n), (1, .int p0), (2, .int p1)] := hl
  refine lv_aload_n hx hb dX2_hasWay_0 rfl (lv_at hl 0 rfl) ?_
  refine lv_iload_n hx hb dX2_hasWay_1 rfl (lv_at hl 1 rfl) ?_
  have hPc := hP.sub (ws' := [(wO2 n n_nodes n_kind n_pay n_name n_ways n_held n_targets n_weights)]) [0] rfl
  refine vp_callSi (va_Run.run (va_runV (As := [.int p0]) (rest := []) ⟨hx, hb, hml, hown, hts⟩ (c_X2_has l D g n p0 n_nodes n_kind n_pay n_name n_ways n_held n_targets n_weights (tr_w h_n_nodes (by decide) (by decide))) (cwV 1 hts (tz_gV qw_328 qw_329 qw_330 qw_322 qw_331) rfl rfl rfl (by decide +kernel) ⟨Nat.le_of_ble_eq_true rfl, Nat.le_of_ble_eq_true rfl⟩) ⟨tz_blS, va_recv hK hPc (ci := 2) (q0 := 0) rfl rfl, tz_preS hPc hK⟩ rfl rfl hl.1 rfl (lv_room (Nat.le_of_ble_eq_true rfl)) dX2_hasWay_2 ⟨Nat.le_of_ble_eq_true rfl, Nat.le_of_ble_eq_true rfl⟩)) (fun r_59272 hw => ?_)
  have hw_59273 : 0 ≤ (r_59272 : Int32).toInt ∧ (r_59272 : Int32).toInt ≤ 1 := hw.1
  have hw_59273_m : ¬ r_59272 = 0 → 0 ≤ (p0 : Int32).toInt ∧ (p0 : Int32).toInt ≤ 11 := hw.2
  refine lv_if_eq (tgt := 26) hx hb dX2_hasWay_5 (by decide) (fun c_59274 => ?_) (fun c_59274 => ?_)
  · skip
    have c_59274_i : (r_59272 : Int32).toInt = (0 : Int32).toInt := congrArg Int32.toInt c_59274
    have h_59275 : 0 ≤ (r_59272 : Int32).toInt ∧ (r_59272 : Int32).toInt ≤ 0 := nr_eq_l hw_59273 (⟨by decide, by decide⟩ : 0 ≤ (0 : Int32).toInt ∧ (0 : Int32).toInt ≤ 0) c_59274_i (by decide) (by decide)
    refine lv_iconst (v := 0) hx hb dX2_hasWay_26 (by decide) ?_
    exact W.zret (v := 0) hx hb hr (by decide) (fun t ht hW => ⟨0, rfl, ⟨(⟨by decide, by decide⟩ : 0 ≤ (0 : Int32).toInt ∧ (0 : Int32).toInt ≤ 1), (fun h => absurd rfl h)⟩, ht⟩) (fun _ h => nomatch h) dX2_hasWay_27
  · skip
    have h_59276 := hw_59273_m c_59274
    have c_59274_i : ¬ (r_59272 : Int32).toInt = (0 : Int32).toInt := (fun q => c_59274 (Int32.toInt_inj.mp q))
    have h_59277 : 1 ≤ (r_59272 : Int32).toInt ∧ (r_59272 : Int32).toInt ≤ 1 := nr_ne_l hw_59273 (⟨by decide, by decide⟩ : 0 ≤ (0 : Int32).toInt ∧ (0 : Int32).toInt ≤ 0) c_59274_i (by decide) (by decide)
    refine lv_iload_n hx hb dX2_hasWay_8 rfl (lv_at hl 2 rfl) ?_
    refine lv_if_lt (tgt := 26) hx hb dX2_hasWay_9 (by decide) (fun c_59278 => ?_) (fun c_59278 => ?_)
    · skip
      have c_59278_i := Int32.lt_iff_toInt_lt.mp c_59278
      have h_59279 : (-2147483648) ≤ (p1 : Int32).toInt ∧ (p1 : Int32).toInt ≤ (-1) := nr_lt_l (tr_any p1) (⟨by decide, by decide⟩ : 0 ≤ (0 : Int32).toInt ∧ (0 : Int32).toInt ≤ 0) c_59278_i (by decide) (by decide)
      refine lv_iconst (v := 0) hx hb dX2_hasWay_26 (by decide) ?_
      exact W.zret (v := 0) hx hb hr (by decide) (fun t ht hW => ⟨0, rfl, ⟨(⟨by decide, by decide⟩ : 0 ≤ (0 : Int32).toInt ∧ (0 : Int32).toInt ≤ 1), (fun h => absurd rfl h)⟩, ht⟩) (fun _ h => nomatch h) dX2_hasWay_27
    · skip
      have c_59278_i := Int32.le_iff_toInt_le.mp (Int32.not_lt.mp c_59278)
      have h_59280 : 0 ≤ (p1 : Int32).toInt ∧ (p1 : Int32).toInt ≤ 2147483647 := nr_le_r (⟨by decide, by decide⟩ : 0 ≤ (0 : Int32).toInt ∧ (0 : Int32).toInt ≤ 0) (tr_any p1) c_59278_i (by decide) (by decide)
      refine lv_iload_n hx hb dX2_hasWay_12 rfl (lv_at hl 2 rfl) ?_
      refine lv_aload_n hx hb dX2_hasWay_13 rfl (lv_at hl 0 rfl) ?_
      refine va_get (D := D) (ci := 2) (v := .ref n_ways) (C := RX2) (T := TX2) (N := 8) hx hb hts inlX2 hown hK hP 0 rfl rfl 4 (by decide) (hts (Cond.fieldLink RX2 21 "ChanceRings$Net" "ways" "[I") qw_318) (fun _ h9 => h9) rfl dX2_hasWay_14 ?_
      refine lv_iload_n hx hb dX2_hasWay_17 rfl (lv_at hl 1 rfl) ?_
      refine va_iald hx hb hK hP 1 0 rfl rfl (tr_in h_59276 (by decide) (by decide)) dX2_hasWay_18 ?_
      refine lv_topi (fun v_59281 v_59281_e => ?_)
      have h_v_59281 : 0 ≤ (v_59281 : Int32).toInt ∧ (v_59281 : Int32).toInt ≤ 3 := by rw [v_59281_e]; exact h_n_fways _
      refine lv_icmp_ge (tgt := 26) hx hb dX2_hasWay_19 (by decide) (fun c_59282 => ?_) (fun c_59282 => ?_)
      · skip
        refine lv_iconst (v := 0) hx hb dX2_hasWay_26 (by decide) ?_
        exact W.zret (v := 0) hx hb hr (by decide) (fun t ht hW => ⟨0, rfl, ⟨(⟨by decide, by decide⟩ : 0 ≤ (0 : Int32).toInt ∧ (0 : Int32).toInt ≤ 1), (fun h => absurd rfl h)⟩, ht⟩) (fun _ h => nomatch h) dX2_hasWay_27
      · skip
        have c_59282_i := Int32.lt_iff_toInt_lt.mp (Int32.not_le.mp c_59282)
        have h_59283 : 0 ≤ (p1 : Int32).toInt ∧ (p1 : Int32).toInt ≤ 2 := nr_lt_l h_59280 h_v_59281 c_59282_i (by decide) (by decide)
        have h_59284 : 1 ≤ (v_59281 : Int32).toInt ∧ (v_59281 : Int32).toInt ≤ 3 := nr_lt_r h_59280 h_v_59281 c_59282_i (by decide) (by decide)
        refine lv_iconst (v := 1) hx hb dX2_hasWay_22 (by decide) ?_
        refine lv_goto (tgt := 27) hx hb dX2_hasWay_23 (by decide) ?_
        exact W.zret (v := 1) hx hb hr (by decide) (fun t ht hW => ⟨1, rfl, ⟨(⟨by decide, by decide⟩ : 0 ≤ (1 : Int32).toInt ∧ (1 : Int32).toInt ≤ 1), (fun _ => (tr_w h_59276 (by decide) (by decide)))⟩, ht⟩) (fun _ h => nomatch h) dX2_hasWay_27
set_option maxHeartbeats 4000000 in
set_option maxRecDepth 100000 in
theorem c_X2_isChooser (l : Launch) (D : va_G) (g : Nat → ClassId) (n : Nat) (p0 : Int32) (n_nodes : Int32) (n_kind : Nat) (n_pay : Nat) (n_name : Nat) (n_ways : Nat) (n_held : Nat) (n_targets : Nat) (n_weights : Nat) (n_fkind : Nat → Int32) (h_n_nodes : 0 ≤ (n_nodes : Int32).toInt ∧ (n_nodes : Int32).toInt ≤ 12) (h_n_fkind : ∀ j : Nat, 0 ≤ (n_fkind j).toInt ∧ (n_fkind j).toInt ≤ 3) : Met l yX2_isChooser (.code yX2_isChooser cX2_isChooser 2 (some .boolean) :: wsL_law) ({ frames := 1, cells := 0, slots := 0, locals := 21 }) (va_Pc [.ref n, .int p0] (fun U => va_P D vwCl [(wO2 n n_nodes n_kind n_pay n_name n_ways n_held n_targets n_weights), (wI g n_kind 0 12 n_fkind)] U.heap ∧ va_K D vwCl (TY g) U)) (vp_Si (fun r => (0 ≤ (r : Int32).toInt ∧ (r : Int32).toInt ≤ 1) ∧ (¬ r = 0 → 0 ≤ (p0 : Int32).toInt ∧ (p0 : Int32).toInt ≤ 11))) 0 0 (fun _ => False) := by
  refine Met.ofW (cc := cX2_isChooser) (maxL := 2) (ret := (some .boolean)) (by decide) rfl ?_
  intro p e s m args below meth c s₁ B hml hv
  obtain ⟨ha, hP, hK⟩ := hv
  have hx := B.exec
  have hb := B.bytes
  have hr := B.returns
  have hts0 := atoms_spec (ws := (.code yX2_isChooser cX2_isChooser 2 (some .boolean) :: wsL_law)) B.pre
  have hts : ∀ w ∈ wsL_law, w.before args s = true := fun w h => hts0 w (List.mem_cons_of_mem _ h)
  have hown : s.vm.findClass RX2 = some m.cls := findClass_of_methodNamed B.named
  have hlocks := B.notSynchronized
  have hP : va_P D vwCl [(wO2 n n_nodes n_kind n_pay n_name n_ways n_held n_targets n_weights), (wI g n_kind 0 12 n_fkind)] s.heap := hP
  refine W.eq (g2 := entryFrame m ([.ref n, .int p0] : List Value).toArray 2) (by rw [ha]) ?_
  have hl := lv_entry ([.ref n, .int p0]) (n := 2) (Nat.le_of_ble_eq_true rfl)
  rw [lg_entry_eq]
  generalize (lg_sl ([.ref n, .int p0]) ++ List.replicate (2 - (lg_sl ([.ref n, .int p0])).length) Slot.unset).toArray = ls at hl ⊢
  have hl : lv_has ls 2 [(0, .ref n), (1, .int p0)] := hl
  refine lv_aload_n hx hb dX2_isChooser_0 rfl (lv_at hl 0 rfl) ?_
  refine lv_iload_n hx hb dX2_isChooser_1 rfl (lv_at hl 1 rfl) ?_
  have hPc := hP.sub (ws' := [(wO2 n n_nodes n_kind n_pay n_name n_ways n_held n_targets n_weights)]) [0] rfl
  refine vp_callSi (va_Run.run (va_runV (As := [.int p0]) (rest := []) ⟨hx, hb, hml, hown, hts⟩ (c_X2_has l D g n p0 n_nodes n_kind n_pay n_name n_ways n_held n_targets n_weights (tr_w h_n_nodes (by decide) (by decide))) (cwV 1 hts (tz_gV qw_328 qw_329 qw_330 qw_322 qw_331) rfl rfl rfl (by decide +kernel) ⟨Nat.le_of_ble_eq_true rfl, Nat.le_of_ble_eq_true rfl⟩) ⟨tz_blS, va_recv hK hPc (ci := 2) (q0 := 0) rfl rfl, tz_preS hPc hK⟩ rfl rfl hl.1 rfl (lv_room (Nat.le_of_ble_eq_true rfl)) dX2_isChooser_2 ⟨Nat.le_of_ble_eq_true rfl, Nat.le_of_ble_eq_true rfl⟩)) (fun r_59285 hw => ?_)
  have hw_59286 : 0 ≤ (r_59285 : Int32).toInt ∧ (r_59285 : Int32).toInt ≤ 1 := hw.1
  have hw_59286_m : ¬ r_59285 = 0 → 0 ≤ (p0 : Int32).toInt ∧ (p0 : Int32).toInt ≤ 11 := hw.2
  refine lv_if_eq (tgt := 32) hx hb dX2_isChooser_5 (by decide) (fun c_59287 => ?_) (fun c_59287 => ?_)
  · skip
    have c_59287_i : (r_59285 : Int32).toInt = (0 : Int32).toInt := congrArg Int32.toInt c_59287
    have h_59288 : 0 ≤ (r_59285 : Int32).toInt ∧ (r_59285 : Int32).toInt ≤ 0 := nr_eq_l hw_59286 (⟨by decide, by decide⟩ : 0 ≤ (0 : Int32).toInt ∧ (0 : Int32).toInt ≤ 0) c_59287_i (by decide) (by decide)
    refine lv_iconst (v := 0) hx hb dX2_isChooser_32 (by decide) ?_
    exact W.zret (v := 0) hx hb hr (by decide) (fun t ht hW => ⟨0, rfl, ⟨(⟨by decide, by decide⟩ : 0 ≤ (0 : Int32).toInt ∧ (0 : Int32).toInt ≤ 1), (fun h => absurd rfl h)⟩, ht⟩) (fun _ h => nomatch h) dX2_isChooser_33
  · skip
    have h_59289 := hw_59286_m c_59287
    have c_59287_i : ¬ (r_59285 : Int32).toInt = (0 : Int32).toInt := (fun q => c_59287 (Int32.toInt_inj.mp q))
    have h_59290 : 1 ≤ (r_59285 : Int32).toInt ∧ (r_59285 : Int32).toInt ≤ 1 := nr_ne_l hw_59286 (⟨by decide, by decide⟩ : 0 ≤ (0 : Int32).toInt ∧ (0 : Int32).toInt ≤ 0) c_59287_i (by decide) (by decide)
    refine lv_aload_n hx hb dX2_isChooser_8 rfl (lv_at hl 0 rfl) ?_
    refine va_get (D := D) (ci := 2) (v := .ref n_kind) (C := RX2) (T := TX2) (N := 8) hx hb hts inlX2 hown hK hP 0 rfl rfl 1 (by decide) (hts (Cond.fieldLink RX2 9 "ChanceRings$Net" "kind" "[I") qw_316) (fun _ h9 => h9) rfl dX2_isChooser_9 ?_
    refine lv_iload_n hx hb dX2_isChooser_12 rfl (lv_at hl 1 rfl) ?_
    refine va_iald hx hb hK hP 1 0 rfl rfl (tr_in h_59289 (by decide) (by decide)) dX2_isChooser_13 ?_
    refine lv_topi (fun v_59291 v_59291_e => ?_)
    have h_v_59291 : 0 ≤ (v_59291 : Int32).toInt ∧ (v_59291 : Int32).toInt ≤ 3 := by rw [v_59291_e]; exact h_n_fkind _
    refine lv_iconst (v := 1) hx hb dX2_isChooser_14 (by decide) ?_
    refine lv_icmp_eq (tgt := 28) hx hb dX2_isChooser_15 (by decide) (fun c_59292 => ?_) (fun c_59292 => ?_)
    · skip
      have c_59292_i : (v_59291 : Int32).toInt = (1 : Int32).toInt := congrArg Int32.toInt c_59292
      have h_59293 : 1 ≤ (v_59291 : Int32).toInt ∧ (v_59291 : Int32).toInt ≤ 1 := nr_eq_l h_v_59291 (⟨by decide, by decide⟩ : 1 ≤ (1 : Int32).toInt ∧ (1 : Int32).toInt ≤ 1) c_59292_i (by decide) (by decide)
      refine lv_iconst (v := 1) hx hb dX2_isChooser_28 (by decide) ?_
      refine lv_goto (tgt := 33) hx hb dX2_isChooser_29 (by decide) ?_
      exact W.zret (v := 1) hx hb hr (by decide) (fun t ht hW => ⟨1, rfl, ⟨(⟨by decide, by decide⟩ : 0 ≤ (1 : Int32).toInt ∧ (1 : Int32).toInt ≤ 1), (fun _ => (tr_w h_59289 (by decide) (by decide)))⟩, ht⟩) (fun _ h => nomatch h) dX2_isChooser_33
    · skip
      refine lv_aload_n hx hb dX2_isChooser_18 rfl (lv_at hl 0 rfl) ?_
      refine va_get (D := D) (ci := 2) (v := .ref n_kind) (C := RX2) (T := TX2) (N := 8) hx hb hts inlX2 hown hK hP 0 rfl rfl 1 (by decide) (hts (Cond.fieldLink RX2 9 "ChanceRings$Net" "kind" "[I") qw_316) (fun _ h9 => h9) rfl dX2_isChooser_19 ?_
      refine lv_iload_n hx hb dX2_isChooser_22 rfl (lv_at hl 1 rfl) ?_
      refine va_iald hx hb hK hP 1 0 rfl rfl (tr_in h_59289 (by decide) (by decide)) dX2_isChooser_23 ?_
      refine tz_i (y := v_59291) v_59291_e.symm ?_
      refine lv_iconst (v := 2) hx hb dX2_isChooser_24 (by decide) ?_
      refine lv_icmp_ne (tgt := 32) hx hb dX2_isChooser_25 (by decide) (fun c_59294 => ?_) (fun c_59294 => ?_)
      · skip
        refine lv_iconst (v := 0) hx hb dX2_isChooser_32 (by decide) ?_
        exact W.zret (v := 0) hx hb hr (by decide) (fun t ht hW => ⟨0, rfl, ⟨(⟨by decide, by decide⟩ : 0 ≤ (0 : Int32).toInt ∧ (0 : Int32).toInt ≤ 1), (fun h => absurd rfl h)⟩, ht⟩) (fun _ h => nomatch h) dX2_isChooser_33
      · skip
        have c_59294_i : (v_59291 : Int32).toInt = (2 : Int32).toInt := congrArg Int32.toInt c_59294
        have h_59295 : 2 ≤ (v_59291 : Int32).toInt ∧ (v_59291 : Int32).toInt ≤ 2 := nr_eq_l h_v_59291 (⟨by decide, by decide⟩ : 2 ≤ (2 : Int32).toInt ∧ (2 : Int32).toInt ≤ 2) c_59294_i (by decide) (by decide)
        refine lv_iconst (v := 1) hx hb dX2_isChooser_28 (by decide) ?_
        refine lv_goto (tgt := 33) hx hb dX2_isChooser_29 (by decide) ?_
        exact W.zret (v := 1) hx hb hr (by decide) (fun t ht hW => ⟨1, rfl, ⟨(⟨by decide, by decide⟩ : 0 ≤ (1 : Int32).toInt ∧ (1 : Int32).toInt ≤ 1), (fun _ => (tr_w h_59289 (by decide) (by decide)))⟩, ht⟩) (fun _ h => nomatch h) dX2_isChooser_33
set_option maxHeartbeats 4000000 in
set_option maxRecDepth 100000 in
theorem c_X2_weight (l : Launch) (D : va_G) (g : Nat → ClassId) (n : Nat) (p0 : Int32) (p1 : Int32) (n_nodes : Int32) (n_kind : Nat) (n_pay : Nat) (n_name : Nat) (n_ways : Nat) (n_held : Nat) (n_targets : Nat) (n_weights : Nat) (n_fweights : Nat → Int32) (h_p0 : 0 ≤ (p0 : Int32).toInt ∧ (p0 : Int32).toInt ≤ 11) (h_p1 : 0 ≤ (p1 : Int32).toInt ∧ (p1 : Int32).toInt ≤ 2) (h_n_nodes : 0 ≤ (n_nodes : Int32).toInt ∧ (n_nodes : Int32).toInt ≤ 12) : Met l yX2_weight (.code yX2_weight cX2_weight 3 (some .int) :: wsL_law) ({ frames := 0, cells := 0, slots := 0, locals := 0 }) (va_Pc [.ref n, .int p0, .int p1] (fun U => va_P D vwCl [(wO2 n n_nodes n_kind n_pay n_name n_ways n_held n_targets n_weights), (wI g n_weights 0 36 n_fweights)] U.heap ∧ va_K D vwCl (TY g) U)) (vp_Si (fun r => True)) 0 0 (fun _ => False) := by
  refine Met.ofW (cc := cX2_weight) (maxL := 3) (ret := (some .int)) (by decide) rfl ?_
  intro p e s m args below meth c s₁ B hml hv
  obtain ⟨ha, hP, hK⟩ := hv
  have hx := B.exec
  have hb := B.bytes
  have hr := B.returns
  have hts0 := atoms_spec (ws := (.code yX2_weight cX2_weight 3 (some .int) :: wsL_law)) B.pre
  have hts : ∀ w ∈ wsL_law, w.before args s = true := fun w h => hts0 w (List.mem_cons_of_mem _ h)
  have hown : s.vm.findClass RX2 = some m.cls := findClass_of_methodNamed B.named
  have hlocks := B.notSynchronized
  have hP : va_P D vwCl [(wO2 n n_nodes n_kind n_pay n_name n_ways n_held n_targets n_weights), (wI g n_weights 0 36 n_fweights)] s.heap := hP
  refine W.eq (g2 := entryFrame m ([.ref n, .int p0, .int p1] : List Value).toArray 3) (by rw [ha]) ?_
  have hl := lv_entry ([.ref n, .int p0, .int p1]) (n := 3) (Nat.le_of_ble_eq_true rfl)
  rw [lg_entry_eq]
  generalize (lg_sl ([.ref n, .int p0, .int p1]) ++ List.replicate (3 - (lg_sl ([.ref n, .int p0, .int p1])).length) Slot.unset).toArray = ls at hl ⊢
  have hl : lv_has ls 3 [(0, .ref n), (1, .int p0), (2, .int p1)] := hl
  refine lv_aload_n hx hb dX2_weight_0 rfl (lv_at hl 0 rfl) ?_
  refine va_get (D := D) (ci := 2) (v := .ref n_weights) (C := RX2) (T := TX2) (N := 8) hx hb hts inlX2 hown hK hP 0 rfl rfl 7 (by decide) (hts (Cond.fieldLink RX2 30 "ChanceRings$Net" "weights" "[I") qw_332) (fun _ h9 => h9) rfl dX2_weight_1 ?_
  refine lv_iload_n hx hb dX2_weight_4 rfl (lv_at hl 1 rfl) ?_
  refine lv_iconst (v := 3) hx hb dX2_weight_5 (by decide) ?_
  refine lv_imul hx hb dX2_weight_6 ?_
  refine lv_topi (fun v_59296 v_59296_e => ?_)
  have h_v_59296 : 0 ≤ (v_59296 : Int32).toInt ∧ (v_59296 : Int32).toInt ≤ 33 := by rw [v_59296_e]; exact tr_mul h_p0 (⟨by decide, by decide⟩ : 3 ≤ (3 : Int32).toInt ∧ (3 : Int32).toInt ≤ 3) (by decide) (by decide) (by decide) (by decide)
  refine lv_iload_n hx hb dX2_weight_7 rfl (lv_at hl 2 rfl) ?_
  refine lv_iadd hx hb dX2_weight_8 ?_
  refine lv_topi (fun v_59297 v_59297_e => ?_)
  have h_v_59297 : 0 ≤ (v_59297 : Int32).toInt ∧ (v_59297 : Int32).toInt ≤ 35 := by rw [v_59297_e]; exact tr_add h_v_59296 h_p1 (by decide) (by decide) (by decide) (by decide)
  refine va_iald hx hb hK hP 1 0 rfl rfl (tr_in h_v_59297 (by decide) (by decide)) dX2_weight_9 ?_
  refine lv_topi (fun v_59298 v_59298_e => ?_)
  exact W.iret (v := v_59298) hx hb hr (fun t ht hW => ⟨v_59298, rfl, trivial, ht⟩) (fun _ h => nomatch h) dX2_weight_10
set_option maxHeartbeats 4000000 in
set_option maxRecDepth 100000 in
theorem c_X2_together (l : Launch) (D : va_G) (g : Nat → ClassId) (n : Nat) (p0 : Int32) (n_nodes : Int32) (n_kind : Nat) (n_pay : Nat) (n_name : Nat) (n_ways : Nat) (n_held : Nat) (n_targets : Nat) (n_weights : Nat) (n_fkind : Nat → Int32) (n_fways : Nat → Int32) (n_fweights : Nat → Int32) (h_p0 : 0 ≤ (p0 : Int32).toInt ∧ (p0 : Int32).toInt ≤ 11) (h_n_nodes : 0 ≤ (n_nodes : Int32).toInt ∧ (n_nodes : Int32).toInt ≤ 12) (h_n_fkind : ∀ j : Nat, 0 ≤ (n_fkind j).toInt ∧ (n_fkind j).toInt ≤ 3) (h_n_fways : ∀ j : Nat, 0 ≤ (n_fways j).toInt ∧ (n_fways j).toInt ≤ 3) : Met l yX2_together (.code yX2_together cX2_together 4 (some .int) :: wsL_law) ({ frames := 0, cells := 0, slots := 0, locals := 0 }) (va_Pc [.ref n, .int p0] (fun U => va_P D vwCl [(wO2 n n_nodes n_kind n_pay n_name n_ways n_held n_targets n_weights), (wI g n_kind 0 12 n_fkind), (wI g n_ways 0 12 n_fways), (wI g n_weights 0 36 n_fweights)] U.heap ∧ va_K D vwCl (TY g) U)) (vp_Si (fun r => True)) 0 0 (fun _ => False) := by
  refine Met.ofW (cc := cX2_together) (maxL := 4) (ret := (some .int)) (by decide) rfl ?_
  intro p e s m args below meth c s₁ B hml hv
  obtain ⟨ha, hP, hK⟩ := hv
  have hx := B.exec
  have hb := B.bytes
  have hr := B.returns
  have hts0 := atoms_spec (ws := (.code yX2_together cX2_together 4 (some .int) :: wsL_law)) B.pre
  have hts : ∀ w ∈ wsL_law, w.before args s = true := fun w h => hts0 w (List.mem_cons_of_mem _ h)
  have hown : s.vm.findClass RX2 = some m.cls := findClass_of_methodNamed B.named
  have hlocks := B.notSynchronized
  have hP : va_P D vwCl [(wO2 n n_nodes n_kind n_pay n_name n_ways n_held n_targets n_weights), (wI g n_kind 0 12 n_fkind), (wI g n_ways 0 12 n_fways), (wI g n_weights 0 36 n_fweights)] s.heap := hP
  refine W.eq (g2 := entryFrame m ([.ref n, .int p0] : List Value).toArray 4) (by rw [ha]) ?_
  have hl := lv_entry ([.ref n, .int p0]) (n := 4) (Nat.le_of_ble_eq_true rfl)
  rw [lg_entry_eq]
  generalize (lg_sl ([.ref n, .int p0]) ++ List.replicate (4 - (lg_sl ([.ref n, .int p0])).length) Slot.unset).toArray = ls at hl ⊢
  have hl : lv_has ls 4 [(0, .ref n), (1, .int p0)] := hl
  refine lv_aload_n hx hb dX2_together_0 rfl (lv_at hl 0 rfl) ?_
  refine va_get (D := D) (ci := 2) (v := .ref n_kind) (C := RX2) (T := TX2) (N := 8) hx hb hts inlX2 hown hK hP 0 rfl rfl 1 (by decide) (hts (Cond.fieldLink RX2 9 "ChanceRings$Net" "kind" "[I") qw_316) (fun _ h9 => h9) rfl dX2_together_1 ?_
  refine lv_iload_n hx hb dX2_together_4 rfl (lv_at hl 1 rfl) ?_
  refine va_iald hx hb hK hP 1 0 rfl rfl (tr_in h_p0 (by decide) (by decide)) dX2_together_5 ?_
  refine lv_topi (fun v_59299 v_59299_e => ?_)
  have h_v_59299 : 0 ≤ (v_59299 : Int32).toInt ∧ (v_59299 : Int32).toInt ≤ 3 := by rw [v_59299_e]; exact h_n_fkind _
  refine lv_iconst (v := 3) hx hb dX2_together_6 (by decide) ?_
  refine lv_icmp_eq (tgt := 12) hx hb dX2_together_7 (by decide) (fun c_59300 => ?_) (fun c_59300 => ?_)
  · skip
    have c_59300_i : (v_59299 : Int32).toInt = (3 : Int32).toInt := congrArg Int32.toInt c_59300
    have h_59301 : 3 ≤ (v_59299 : Int32).toInt ∧ (v_59299 : Int32).toInt ≤ 3 := nr_eq_l h_v_59299 (⟨by decide, by decide⟩ : 3 ≤ (3 : Int32).toInt ∧ (3 : Int32).toInt ≤ 3) c_59300_i (by decide) (by decide)
    refine lv_iconst (v := 0) hx hb dX2_together_12 (by decide) ?_
    refine lv_istore_n (lv' := [(2, .int 0), (0, .ref n), (1, .int p0)]) hx hb dX2_together_13 rfl hl (by decide) rfl (fun ls hl => ?_)
    refine lv_iconst (v := 0) hx hb dX2_together_14 (by decide) ?_
    refine lv_istore_n (lv' := [(3, .int 0), (2, .int 0), (0, .ref n), (1, .int p0)]) hx hb dX2_together_15 rfl hl (by decide) rfl (fun ls hl => ?_)
    have lp_59346 : ∀ (n_59346 : Nat) (x_59344 : Int32) (x_59345 : Int32) (ls : Array Slot), (0 ≤ (x_59344 : Int32).toInt ∧ (x_59344 : Int32).toInt ≤ 3) → (3 - x_59344.toInt < (n_59346 : Int)) → lv_has ls 4 [(3, .int x_59344), (2, .int x_59345), (0, .ref n), (1, .int p0)] → W p l e (headSpec (.code yX2_together cX2_together 4 (some .int) :: wsL_law) ({ frames := 0, cells := 0, slots := 0, locals := 0 })).room s m args below meth c s.heap [] 0 0 (MQ below (vp_Si (fun r => True)) args s 0 0 (fun _ => False)) (F0 m 16 ls []) := by
      intro n_59346
      induction n_59346 with
      | zero =>
        intro x_59344 x_59345 ls h_x_59344 hm_59346 hl
        exfalso; omega
      | succ n_59346 ih_59346 =>
        intro x_59344 x_59345 ls h_x_59344 hm_59346 hl
        refine lv_iload_n hx hb dX2_together_16 rfl (lv_at hl 0 rfl) ?_
        refine lv_aload_n hx hb dX2_together_17 rfl (lv_at hl 2 rfl) ?_
        refine va_get (D := D) (ci := 2) (v := .ref n_ways) (C := RX2) (T := TX2) (N := 8) hx hb hts inlX2 hown hK hP 0 rfl rfl 4 (by decide) (hts (Cond.fieldLink RX2 21 "ChanceRings$Net" "ways" "[I") qw_318) (fun _ h9 => h9) rfl dX2_together_18 ?_
        refine lv_iload_n hx hb dX2_together_21 rfl (lv_at hl 3 rfl) ?_
        refine va_iald hx hb hK hP 2 0 rfl rfl (tr_in h_p0 (by decide) (by decide)) dX2_together_22 ?_
        refine lv_topi (fun v_59347 v_59347_e => ?_)
        have h_v_59347 : 0 ≤ (v_59347 : Int32).toInt ∧ (v_59347 : Int32).toInt ≤ 3 := by rw [v_59347_e]; exact h_n_fways _
        refine lv_icmp_ge (tgt := 45) hx hb dX2_together_23 (by decide) (fun c_59348 => ?_) (fun c_59348 => ?_)
        · skip
          refine lv_iload_n hx hb dX2_together_45 rfl (lv_at hl 1 rfl) ?_
          exact W.iret (v := x_59345) hx hb hr (fun t ht hW => ⟨x_59345, rfl, trivial, ht⟩) (fun _ h => nomatch h) dX2_together_46
        · skip
          have c_59348_i := Int32.lt_iff_toInt_lt.mp (Int32.not_le.mp c_59348)
          have h_59349 : 0 ≤ (x_59344 : Int32).toInt ∧ (x_59344 : Int32).toInt ≤ 2 := nr_lt_l h_x_59344 h_v_59347 c_59348_i (by decide) (by decide)
          have h_59350 : 1 ≤ (v_59347 : Int32).toInt ∧ (v_59347 : Int32).toInt ≤ 3 := nr_lt_r h_x_59344 h_v_59347 c_59348_i (by decide) (by decide)
          refine lv_iload_n hx hb dX2_together_26 rfl (lv_at hl 1 rfl) ?_
          refine lv_aload_n hx hb dX2_together_27 rfl (lv_at hl 2 rfl) ?_
          refine va_get (D := D) (ci := 2) (v := .ref n_weights) (C := RX2) (T := TX2) (N := 8) hx hb hts inlX2 hown hK hP 0 rfl rfl 7 (by decide) (hts (Cond.fieldLink RX2 30 "ChanceRings$Net" "weights" "[I") qw_332) (fun _ h9 => h9) rfl dX2_together_28 ?_
          refine lv_iload_n hx hb dX2_together_31 rfl (lv_at hl 3 rfl) ?_
          refine lv_iconst (v := 3) hx hb dX2_together_32 (by decide) ?_
          refine lv_imul hx hb dX2_together_33 ?_
          refine lv_topi (fun v_59351 v_59351_e => ?_)
          have h_v_59351 : 0 ≤ (v_59351 : Int32).toInt ∧ (v_59351 : Int32).toInt ≤ 33 := by rw [v_59351_e]; exact tr_mul h_p0 (⟨by decide, by decide⟩ : 3 ≤ (3 : Int32).toInt ∧ (3 : Int32).toInt ≤ 3) (by decide) (by decide) (by decide) (by decide)
          refine lv_iload_n hx hb dX2_together_34 rfl (lv_at hl 0 rfl) ?_
          refine lv_iadd hx hb dX2_together_35 ?_
          refine lv_topi (fun v_59352 v_59352_e => ?_)
          have h_v_59352 : 0 ≤ (v_59352 : Int32).toInt ∧ (v_59352 : Int32).toInt ≤ 35 := by rw [v_59352_e]; exact tr_add h_v_59351 h_59349 (by decide) (by decide) (by decide) (by decide)
          refine va_iald hx hb hK hP 3 0 rfl rfl (tr_in h_v_59352 (by decide) (by decide)) dX2_together_36 ?_
          refine lv_topi (fun v_59353 v_59353_e => ?_)
          refine lv_iadd hx hb dX2_together_37 ?_
          refine lv_topi (fun v_59354 v_59354_e => ?_)
          refine lv_istore_n (lv' := [(2, .int v_59354), (3, .int x_59344), (0, .ref n), (1, .int p0)]) hx hb dX2_together_38 rfl hl (by decide) rfl (fun ls hl => ?_)
          obtain ⟨v_59355, v_59355_e⟩ : ∃ y : Int32, y = x_59344 + Int32.ofInt 1 := ⟨_, rfl⟩
          have h_v_59355 : 1 ≤ (v_59355 : Int32).toInt ∧ (v_59355 : Int32).toInt ≤ 3 := by rw [v_59355_e]; exact tr_add h_59349 (⟨by decide, by decide⟩ : 1 ≤ (Int32.ofInt 1 : Int32).toInt ∧ (Int32.ofInt 1 : Int32).toInt ≤ 1) (by decide) (by decide) (by decide) (by decide)
          have q_v_59355 : v_59355.toInt = x_59344.toInt + 1 := by rw [v_59355_e]; exact tr_addE h_59349 (⟨by decide, by decide⟩ : 1 ≤ (Int32.ofInt 1 : Int32).toInt ∧ (Int32.ofInt 1 : Int32).toInt ≤ 1) (by decide) (by decide)
          refine lv_iinc (v := v_59355) (lv' := [(3, .int v_59355), (2, .int v_59354), (0, .ref n), (1, .int p0)]) hx hb dX2_together_39 hl (k := 1) rfl v_59355_e.symm (by decide) rfl (fun ls hl => ?_)
          refine lv_goto (tgt := 16) hx hb dX2_together_42 (by decide) ?_
          exact ih_59346 v_59355 v_59354 ls (tr_w h_v_59355 (by decide) (by decide)) (by (first | (clear h_p0 h_n_nodes h_v_59299 c_59300_i h_59301 h_v_59351 h_v_59352; omega) | omega)) (lv_sub hl [0, 1, 2, 3] rfl)
    exact lp_59346 4 0 0 ls (⟨by decide, by decide⟩ : 0 ≤ (0 : Int32).toInt ∧ (0 : Int32).toInt ≤ 3) (by decide) (lv_sub hl [0, 1, 2, 3] rfl)
  · skip
    have c_59300_i : ¬ (v_59299 : Int32).toInt = (3 : Int32).toInt := (fun q => c_59300 (Int32.toInt_inj.mp q))
    have h_59302 : 0 ≤ (v_59299 : Int32).toInt ∧ (v_59299 : Int32).toInt ≤ 2 := nr_ne_l h_v_59299 (⟨by decide, by decide⟩ : 3 ≤ (3 : Int32).toInt ∧ (3 : Int32).toInt ≤ 3) c_59300_i (by decide) (by decide)
    refine lv_iconst (v := 1) hx hb dX2_together_10 (by decide) ?_
    exact W.iret (v := 1) hx hb hr (fun t ht hW => ⟨1, rfl, trivial, ht⟩) (fun _ h => nomatch h) dX2_together_11
set_option maxHeartbeats 4000000 in
set_option maxRecDepth 100000 in
theorem c_X2_countWays (l : Launch) (D : va_G) (g : Nat → ClassId) (n : Nat) (n_nodes : Int32) (n_kind : Nat) (n_pay : Nat) (n_name : Nat) (n_ways : Nat) (n_held : Nat) (n_targets : Nat) (n_weights : Nat) (n_fways : Nat → Int32) (h_n_nodes : 0 ≤ (n_nodes : Int32).toInt ∧ (n_nodes : Int32).toInt ≤ 12) (h_n_fways : ∀ j : Nat, 0 ≤ (n_fways j).toInt ∧ (n_fways j).toInt ≤ 3) : Met l yX2_countWays (.code yX2_countWays cX2_countWays 3 (some .int) :: wsL_law) ({ frames := 0, cells := 0, slots := 0, locals := 0 }) (va_Pc [.ref n] (fun U => va_P D vwCl [(wO2 n n_nodes n_kind n_pay n_name n_ways n_held n_targets n_weights), (wI g n_ways 0 12 n_fways)] U.heap ∧ va_K D vwCl (TY g) U)) (vp_Si (fun r => True)) 0 0 (fun _ => False) := by
  refine Met.ofW (cc := cX2_countWays) (maxL := 3) (ret := (some .int)) (by decide) rfl ?_
  intro p e s m args below meth c s₁ B hml hv
  obtain ⟨ha, hP, hK⟩ := hv
  have hx := B.exec
  have hb := B.bytes
  have hr := B.returns
  have hts0 := atoms_spec (ws := (.code yX2_countWays cX2_countWays 3 (some .int) :: wsL_law)) B.pre
  have hts : ∀ w ∈ wsL_law, w.before args s = true := fun w h => hts0 w (List.mem_cons_of_mem _ h)
  have hown : s.vm.findClass RX2 = some m.cls := findClass_of_methodNamed B.named
  have hlocks := B.notSynchronized
  have hP : va_P D vwCl [(wO2 n n_nodes n_kind n_pay n_name n_ways n_held n_targets n_weights), (wI g n_ways 0 12 n_fways)] s.heap := hP
  refine W.eq (g2 := entryFrame m ([.ref n] : List Value).toArray 3) (by rw [ha]) ?_
  have hl := lv_entry ([.ref n]) (n := 3) (Nat.le_of_ble_eq_true rfl)
  rw [lg_entry_eq]
  generalize (lg_sl ([.ref n]) ++ List.replicate (3 - (lg_sl ([.ref n])).length) Slot.unset).toArray = ls at hl ⊢
  have hl : lv_has ls 3 [(0, .ref n)] := hl
  refine lv_iconst (v := 0) hx hb dX2_countWays_0 (by decide) ?_
  refine lv_istore_n (lv' := [(1, .int 0), (0, .ref n)]) hx hb dX2_countWays_1 rfl hl (by decide) rfl (fun ls hl => ?_)
  refine lv_iconst (v := 0) hx hb dX2_countWays_2 (by decide) ?_
  refine lv_istore_n (lv' := [(2, .int 0), (1, .int 0), (0, .ref n)]) hx hb dX2_countWays_3 rfl hl (by decide) rfl (fun ls hl => ?_)
  have lp_59459 : ∀ (n_59459 : Nat) (x_59457 : Int32) (x_59458 : Int32) (ls : Array Slot), (0 ≤ (x_59457 : Int32).toInt ∧ (x_59457 : Int32).toInt ≤ 12) → (12 - x_59457.toInt < (n_59459 : Int)) → lv_has ls 3 [(2, .int x_59457), (1, .int x_59458), (0, .ref n)] → W p l e (headSpec (.code yX2_countWays cX2_countWays 3 (some .int) :: wsL_law) ({ frames := 0, cells := 0, slots := 0, locals := 0 })).room s m args below meth c s.heap [] 0 0 (MQ below (vp_Si (fun r => True)) args s 0 0 (fun _ => False)) (F0 m 4 ls []) := by
    intro n_59459
    induction n_59459 with
    | zero =>
      intro x_59457 x_59458 ls h_x_59457 hm_59459 hl
      exfalso; omega
    | succ n_59459 ih_59459 =>
      intro x_59457 x_59458 ls h_x_59457 hm_59459 hl
      refine lv_iload_n hx hb dX2_countWays_4 rfl (lv_at hl 0 rfl) ?_
      refine lv_aload_n hx hb dX2_countWays_5 rfl (lv_at hl 2 rfl) ?_
      refine va_get (D := D) (ci := 2) (v := .int n_nodes) (C := RX2) (T := TX2) (N := 8) hx hb hts inlX2 hown hK hP 0 rfl rfl 0 (by decide) (hts (Cond.fieldLink RX2 33 "ChanceRings$Net" "nodes" "I") qw_313) (fun _ h9 => h9) rfl dX2_countWays_6 ?_
      refine lv_icmp_ge (tgt := 27) hx hb dX2_countWays_9 (by decide) (fun c_59460 => ?_) (fun c_59460 => ?_)
      · skip
        refine lv_iload_n hx hb dX2_countWays_27 rfl (lv_at hl 1 rfl) ?_
        exact W.iret (v := x_59458) hx hb hr (fun t ht hW => ⟨x_59458, rfl, trivial, ht⟩) (fun _ h => nomatch h) dX2_countWays_28
      · skip
        have c_59460_i := Int32.lt_iff_toInt_lt.mp (Int32.not_le.mp c_59460)
        have h_59461 : 0 ≤ (x_59457 : Int32).toInt ∧ (x_59457 : Int32).toInt ≤ 11 := nr_lt_l h_x_59457 h_n_nodes c_59460_i (by decide) (by decide)
        have h_59462 : 1 ≤ (n_nodes : Int32).toInt ∧ (n_nodes : Int32).toInt ≤ 12 := nr_lt_r h_x_59457 h_n_nodes c_59460_i (by decide) (by decide)
        refine lv_iload_n hx hb dX2_countWays_12 rfl (lv_at hl 1 rfl) ?_
        refine lv_aload_n hx hb dX2_countWays_13 rfl (lv_at hl 2 rfl) ?_
        refine va_get (D := D) (ci := 2) (v := .ref n_ways) (C := RX2) (T := TX2) (N := 8) hx hb hts inlX2 hown hK hP 0 rfl rfl 4 (by decide) (hts (Cond.fieldLink RX2 21 "ChanceRings$Net" "ways" "[I") qw_318) (fun _ h9 => h9) rfl dX2_countWays_14 ?_
        refine lv_iload_n hx hb dX2_countWays_17 rfl (lv_at hl 0 rfl) ?_
        refine va_iald hx hb hK hP 1 0 rfl rfl (tr_in h_59461 (by decide) (by decide)) dX2_countWays_18 ?_
        refine lv_topi (fun v_59463 v_59463_e => ?_)
        have h_v_59463 : 0 ≤ (v_59463 : Int32).toInt ∧ (v_59463 : Int32).toInt ≤ 3 := by rw [v_59463_e]; exact h_n_fways _
        refine lv_iadd hx hb dX2_countWays_19 ?_
        refine lv_topi (fun v_59464 v_59464_e => ?_)
        refine lv_istore_n (lv' := [(1, .int v_59464), (2, .int x_59457), (0, .ref n)]) hx hb dX2_countWays_20 rfl hl (by decide) rfl (fun ls hl => ?_)
        obtain ⟨v_59465, v_59465_e⟩ : ∃ y : Int32, y = x_59457 + Int32.ofInt 1 := ⟨_, rfl⟩
        have h_v_59465 : 1 ≤ (v_59465 : Int32).toInt ∧ (v_59465 : Int32).toInt ≤ 12 := by rw [v_59465_e]; exact tr_add h_59461 (⟨by decide, by decide⟩ : 1 ≤ (Int32.ofInt 1 : Int32).toInt ∧ (Int32.ofInt 1 : Int32).toInt ≤ 1) (by decide) (by decide) (by decide) (by decide)
        have q_v_59465 : v_59465.toInt = x_59457.toInt + 1 := by rw [v_59465_e]; exact tr_addE h_59461 (⟨by decide, by decide⟩ : 1 ≤ (Int32.ofInt 1 : Int32).toInt ∧ (Int32.ofInt 1 : Int32).toInt ≤ 1) (by decide) (by decide)
        refine lv_iinc (v := v_59465) (lv' := [(2, .int v_59465), (1, .int v_59464), (0, .ref n)]) hx hb dX2_countWays_21 hl (k := 1) rfl v_59465_e.symm (by decide) rfl (fun ls hl => ?_)
        refine lv_goto (tgt := 4) hx hb dX2_countWays_24 (by decide) ?_
        exact ih_59459 v_59465 v_59464 ls (tr_w h_v_59465 (by decide) (by decide)) (by omega) (lv_sub hl [0, 1, 2] rfl)
  exact lp_59459 13 0 0 ls (⟨by decide, by decide⟩ : 0 ≤ (0 : Int32).toInt ∧ (0 : Int32).toInt ≤ 12) (by decide) (lv_sub hl [0, 1, 2] rfl)
set_option maxHeartbeats 4000000 in
set_option maxRecDepth 100000 in
theorem c_X2_countTakable (l : Launch) (D : va_G) (g : Nat → ClassId) (n : Nat) (p0 : Int32) (n_nodes : Int32) (n_kind : Nat) (n_pay : Nat) (n_name : Nat) (n_ways : Nat) (n_held : Nat) (n_targets : Nat) (n_weights : Nat) (n_fways : Nat → Int32) (n_fheld : Nat → Int32) (h_p0 : 0 ≤ (p0 : Int32).toInt ∧ (p0 : Int32).toInt ≤ 11) (h_n_nodes : 0 ≤ (n_nodes : Int32).toInt ∧ (n_nodes : Int32).toInt ≤ 12) (h_n_fways : ∀ j : Nat, 0 ≤ (n_fways j).toInt ∧ (n_fways j).toInt ≤ 3) (h_n_fheld : ∀ j : Nat, (-1) ≤ (n_fheld j).toInt ∧ (n_fheld j).toInt ≤ 2) : Met l yX2_countTakable (.code yX2_countTakable cX2_countTakable 2 (some .int) :: wsL_law) ({ frames := 0, cells := 0, slots := 0, locals := 0 }) (va_Pc [.ref n, .int p0] (fun U => va_P D vwCl [(wO2 n n_nodes n_kind n_pay n_name n_ways n_held n_targets n_weights), (wI g n_ways 0 12 n_fways), (wI g n_held 0 12 n_fheld)] U.heap ∧ va_K D vwCl (TY g) U)) (vp_Si (fun r => True)) 0 0 (fun _ => False) := by
  refine Met.ofW (cc := cX2_countTakable) (maxL := 2) (ret := (some .int)) (by decide) rfl ?_
  intro p e s m args below meth c s₁ B hml hv
  obtain ⟨ha, hP, hK⟩ := hv
  have hx := B.exec
  have hb := B.bytes
  have hr := B.returns
  have hts0 := atoms_spec (ws := (.code yX2_countTakable cX2_countTakable 2 (some .int) :: wsL_law)) B.pre
  have hts : ∀ w ∈ wsL_law, w.before args s = true := fun w h => hts0 w (List.mem_cons_of_mem _ h)
  have hown : s.vm.findClass RX2 = some m.cls := findClass_of_methodNamed B.named
  have hlocks := B.notSynchronized
  have hP : va_P D vwCl [(wO2 n n_nodes n_kind n_pay n_name n_ways n_held n_targets n_weights), (wI g n_ways 0 12 n_fways), (wI g n_held 0 12 n_fheld)] s.heap := hP
  refine W.eq (g2 := entryFrame m ([.ref n, .int p0] : List Value).toArray 2) (by rw [ha]) ?_
  have hl := lv_entry ([.ref n, .int p0]) (n := 2) (Nat.le_of_ble_eq_true rfl)
  rw [lg_entry_eq]
  generalize (lg_sl ([.ref n, .int p0]) ++ List.replicate (2 - (lg_sl ([.ref n, .int p0])).length) Slot.unset).toArray = ls at hl ⊢
  have hl : lv_has ls 2 [(0, .ref n), (1, .int p0)] := hl
  refine lv_aload_n hx hb dX2_countTakable_0 rfl (lv_at hl 0 rfl) ?_
  refine va_get (D := D) (ci := 2) (v := .ref n_held) (C := RX2) (T := TX2) (N := 8) hx hb hts inlX2 hown hK hP 0 rfl rfl 5 (by decide) (hts (Cond.fieldLink RX2 24 "ChanceRings$Net" "held" "[I") qw_314) (fun _ h9 => h9) rfl dX2_countTakable_1 ?_
  refine lv_iload_n hx hb dX2_countTakable_4 rfl (lv_at hl 1 rfl) ?_
  refine va_iald hx hb hK hP 2 0 rfl rfl (tr_in h_p0 (by decide) (by decide)) dX2_countTakable_5 ?_
  refine lv_topi (fun v_59466 v_59466_e => ?_)
  have h_v_59466 : (-1) ≤ (v_59466 : Int32).toInt ∧ (v_59466 : Int32).toInt ≤ 2 := by rw [v_59466_e]; exact h_n_fheld _
  refine lv_iconst (v := (-1)) hx hb dX2_countTakable_6 (by decide) ?_
  refine lv_icmp_ne (tgt := 19) hx hb dX2_countTakable_7 (by decide) (fun c_59467 => ?_) (fun c_59467 => ?_)
  · skip
    have c_59467_i : ¬ (v_59466 : Int32).toInt = ((-1) : Int32).toInt := (fun q => c_59467 (Int32.toInt_inj.mp q))
    have h_59468 : 0 ≤ (v_59466 : Int32).toInt ∧ (v_59466 : Int32).toInt ≤ 2 := nr_ne_l h_v_59466 (⟨by decide, by decide⟩ : (-1) ≤ ((-1) : Int32).toInt ∧ ((-1) : Int32).toInt ≤ (-1)) c_59467_i (by decide) (by decide)
    refine lv_iconst (v := 1) hx hb dX2_countTakable_19 (by decide) ?_
    exact W.iret (v := 1) hx hb hr (fun t ht hW => ⟨1, rfl, trivial, ht⟩) (fun _ h => nomatch h) dX2_countTakable_20
  · skip
    have c_59467_i : (v_59466 : Int32).toInt = ((-1) : Int32).toInt := congrArg Int32.toInt c_59467
    have h_59469 : (-1) ≤ (v_59466 : Int32).toInt ∧ (v_59466 : Int32).toInt ≤ (-1) := nr_eq_l h_v_59466 (⟨by decide, by decide⟩ : (-1) ≤ ((-1) : Int32).toInt ∧ ((-1) : Int32).toInt ≤ (-1)) c_59467_i (by decide) (by decide)
    refine lv_aload_n hx hb dX2_countTakable_10 rfl (lv_at hl 0 rfl) ?_
    refine va_get (D := D) (ci := 2) (v := .ref n_ways) (C := RX2) (T := TX2) (N := 8) hx hb hts inlX2 hown hK hP 0 rfl rfl 4 (by decide) (hts (Cond.fieldLink RX2 21 "ChanceRings$Net" "ways" "[I") qw_318) (fun _ h9 => h9) rfl dX2_countTakable_11 ?_
    refine lv_iload_n hx hb dX2_countTakable_14 rfl (lv_at hl 1 rfl) ?_
    refine va_iald hx hb hK hP 1 0 rfl rfl (tr_in h_p0 (by decide) (by decide)) dX2_countTakable_15 ?_
    refine lv_topi (fun v_59470 v_59470_e => ?_)
    have h_v_59470 : 0 ≤ (v_59470 : Int32).toInt ∧ (v_59470 : Int32).toInt ≤ 3 := by rw [v_59470_e]; exact h_n_fways _
    refine lv_goto (tgt := 20) hx hb dX2_countTakable_16 (by decide) ?_
    exact W.iret (v := v_59470) hx hb hr (fun t ht hW => ⟨v_59470, rfl, trivial, ht⟩) (fun _ h => nomatch h) dX2_countTakable_20
set_option maxHeartbeats 4000000 in
set_option maxRecDepth 100000 in
theorem c_X2_heldNodes (l : Launch) (D : va_G) (g : Nat → ClassId) (n : Nat) (n_nodes : Int32) (n_kind : Nat) (n_pay : Nat) (n_name : Nat) (n_ways : Nat) (n_held : Nat) (n_targets : Nat) (n_weights : Nat) (n_fheld : Nat → Int32) (h_n_nodes : 0 ≤ (n_nodes : Int32).toInt ∧ (n_nodes : Int32).toInt ≤ 12) (h_n_fheld : ∀ j : Nat, (-1) ≤ (n_fheld j).toInt ∧ (n_fheld j).toInt ≤ 2) : Met l yX2_heldNodes (.code yX2_heldNodes cX2_heldNodes 3 (some .int) :: wsL_law) ({ frames := 0, cells := 0, slots := 0, locals := 0 }) (va_Pc [.ref n] (fun U => va_P D vwCl [(wO2 n n_nodes n_kind n_pay n_name n_ways n_held n_targets n_weights), (wI g n_held 0 12 n_fheld)] U.heap ∧ va_K D vwCl (TY g) U)) (vp_Si (fun r => True)) 0 0 (fun _ => False) := by
  refine Met.ofW (cc := cX2_heldNodes) (maxL := 3) (ret := (some .int)) (by decide) rfl ?_
  intro p e s m args below meth c s₁ B hml hv
  obtain ⟨ha, hP, hK⟩ := hv
  have hx := B.exec
  have hb := B.bytes
  have hr := B.returns
  have hts0 := atoms_spec (ws := (.code yX2_heldNodes cX2_heldNodes 3 (some .int) :: wsL_law)) B.pre
  have hts : ∀ w ∈ wsL_law, w.before args s = true := fun w h => hts0 w (List.mem_cons_of_mem _ h)
  have hown : s.vm.findClass RX2 = some m.cls := findClass_of_methodNamed B.named
  have hlocks := B.notSynchronized
  have hP : va_P D vwCl [(wO2 n n_nodes n_kind n_pay n_name n_ways n_held n_targets n_weights), (wI g n_held 0 12 n_fheld)] s.heap := hP
  refine W.eq (g2 := entryFrame m ([.ref n] : List Value).toArray 3) (by rw [ha]) ?_
  have hl := lv_entry ([.ref n]) (n := 3) (Nat.le_of_ble_eq_true rfl)
  rw [lg_entry_eq]
  generalize (lg_sl ([.ref n]) ++ List.replicate (3 - (lg_sl ([.ref n])).length) Slot.unset).toArray = ls at hl ⊢
  have hl : lv_has ls 3 [(0, .ref n)] := hl
  refine lv_iconst (v := 0) hx hb dX2_heldNodes_0 (by decide) ?_
  refine lv_istore_n (lv' := [(1, .int 0), (0, .ref n)]) hx hb dX2_heldNodes_1 rfl hl (by decide) rfl (fun ls hl => ?_)
  refine lv_iconst (v := 0) hx hb dX2_heldNodes_2 (by decide) ?_
  refine lv_istore_n (lv' := [(2, .int 0), (1, .int 0), (0, .ref n)]) hx hb dX2_heldNodes_3 rfl hl (by decide) rfl (fun ls hl => ?_)
  have lp_59571 : ∀ (n_59571 : Nat) (x_59569 : Int32) (x_59570 : Int32) (ls : Array Slot), (0 ≤ (x_59569 : Int32).toInt ∧ (x_59569 : Int32).toInt ≤ 12) → (12 - x_59569.toInt < (n_59571 : Int)) → lv_has ls 3 [(2, .int x_59569), (1, .int x_59570), (0, .ref n)] → W p l e (headSpec (.code yX2_heldNodes cX2_heldNodes 3 (some .int) :: wsL_law) ({ frames := 0, cells := 0, slots := 0, locals := 0 })).room s m args below meth c s.heap [] 0 0 (MQ below (vp_Si (fun r => True)) args s 0 0 (fun _ => False)) (F0 m 4 ls []) := by
    intro n_59571
    induction n_59571 with
    | zero =>
      intro x_59569 x_59570 ls h_x_59569 hm_59571 hl
      exfalso; omega
    | succ n_59571 ih_59571 =>
      intro x_59569 x_59570 ls h_x_59569 hm_59571 hl
      refine lv_iload_n hx hb dX2_heldNodes_4 rfl (lv_at hl 0 rfl) ?_
      refine lv_aload_n hx hb dX2_heldNodes_5 rfl (lv_at hl 2 rfl) ?_
      refine va_get (D := D) (ci := 2) (v := .int n_nodes) (C := RX2) (T := TX2) (N := 8) hx hb hts inlX2 hown hK hP 0 rfl rfl 0 (by decide) (hts (Cond.fieldLink RX2 33 "ChanceRings$Net" "nodes" "I") qw_313) (fun _ h9 => h9) rfl dX2_heldNodes_6 ?_
      refine lv_icmp_ge (tgt := 34) hx hb dX2_heldNodes_9 (by decide) (fun c_59572 => ?_) (fun c_59572 => ?_)
      · skip
        refine lv_iload_n hx hb dX2_heldNodes_34 rfl (lv_at hl 1 rfl) ?_
        exact W.iret (v := x_59570) hx hb hr (fun t ht hW => ⟨x_59570, rfl, trivial, ht⟩) (fun _ h => nomatch h) dX2_heldNodes_35
      · skip
        have c_59572_i := Int32.lt_iff_toInt_lt.mp (Int32.not_le.mp c_59572)
        have h_59573 : 0 ≤ (x_59569 : Int32).toInt ∧ (x_59569 : Int32).toInt ≤ 11 := nr_lt_l h_x_59569 h_n_nodes c_59572_i (by decide) (by decide)
        have h_59574 : 1 ≤ (n_nodes : Int32).toInt ∧ (n_nodes : Int32).toInt ≤ 12 := nr_lt_r h_x_59569 h_n_nodes c_59572_i (by decide) (by decide)
        refine lv_aload_n hx hb dX2_heldNodes_12 rfl (lv_at hl 2 rfl) ?_
        refine va_get (D := D) (ci := 2) (v := .ref n_held) (C := RX2) (T := TX2) (N := 8) hx hb hts inlX2 hown hK hP 0 rfl rfl 5 (by decide) (hts (Cond.fieldLink RX2 24 "ChanceRings$Net" "held" "[I") qw_314) (fun _ h9 => h9) rfl dX2_heldNodes_13 ?_
        refine lv_iload_n hx hb dX2_heldNodes_16 rfl (lv_at hl 0 rfl) ?_
        refine va_iald hx hb hK hP 1 0 rfl rfl (tr_in h_59573 (by decide) (by decide)) dX2_heldNodes_17 ?_
        refine lv_topi (fun v_59575 v_59575_e => ?_)
        have h_v_59575 : (-1) ≤ (v_59575 : Int32).toInt ∧ (v_59575 : Int32).toInt ≤ 2 := by rw [v_59575_e]; exact h_n_fheld _
        refine lv_iconst (v := (-1)) hx hb dX2_heldNodes_18 (by decide) ?_
        refine lv_icmp_eq (tgt := 28) hx hb dX2_heldNodes_19 (by decide) (fun c_59576 => ?_) (fun c_59576 => ?_)
        · skip
          have c_59576_i : (v_59575 : Int32).toInt = ((-1) : Int32).toInt := congrArg Int32.toInt c_59576
          have h_59577 : (-1) ≤ (v_59575 : Int32).toInt ∧ (v_59575 : Int32).toInt ≤ (-1) := nr_eq_l h_v_59575 (⟨by decide, by decide⟩ : (-1) ≤ ((-1) : Int32).toInt ∧ ((-1) : Int32).toInt ≤ (-1)) c_59576_i (by decide) (by decide)
          obtain ⟨v_59579, v_59579_e⟩ : ∃ y : Int32, y = x_59569 + Int32.ofInt 1 := ⟨_, rfl⟩
          have h_v_59579 : 1 ≤ (v_59579 : Int32).toInt ∧ (v_59579 : Int32).toInt ≤ 12 := by rw [v_59579_e]; exact tr_add h_59573 (⟨by decide, by decide⟩ : 1 ≤ (Int32.ofInt 1 : Int32).toInt ∧ (Int32.ofInt 1 : Int32).toInt ≤ 1) (by decide) (by decide) (by decide) (by decide)
          have q_v_59579 : v_59579.toInt = x_59569.toInt + 1 := by rw [v_59579_e]; exact tr_addE h_59573 (⟨by decide, by decide⟩ : 1 ≤ (Int32.ofInt 1 : Int32).toInt ∧ (Int32.ofInt 1 : Int32).toInt ≤ 1) (by decide) (by decide)
          refine lv_iinc (v := v_59579) (lv' := [(2, .int v_59579), (1, .int x_59570), (0, .ref n)]) hx hb dX2_heldNodes_28 hl (k := 0) rfl v_59579_e.symm (by decide) rfl (fun ls hl => ?_)
          refine lv_goto (tgt := 4) hx hb dX2_heldNodes_31 (by decide) ?_
          exact ih_59571 v_59579 x_59570 ls (tr_w h_v_59579 (by decide) (by decide)) (by omega) (lv_sub hl [0, 1, 2] rfl)
        · skip
          have c_59576_i : ¬ (v_59575 : Int32).toInt = ((-1) : Int32).toInt := (fun q => c_59576 (Int32.toInt_inj.mp q))
          have h_59578 : 0 ≤ (v_59575 : Int32).toInt ∧ (v_59575 : Int32).toInt ≤ 2 := nr_ne_l h_v_59575 (⟨by decide, by decide⟩ : (-1) ≤ ((-1) : Int32).toInt ∧ ((-1) : Int32).toInt ≤ (-1)) c_59576_i (by decide) (by decide)
          refine lv_iload_n hx hb dX2_heldNodes_22 rfl (lv_at hl 1 rfl) ?_
          refine lv_iconst (v := 1) hx hb dX2_heldNodes_23 (by decide) ?_
          refine lv_iload_n hx hb dX2_heldNodes_24 rfl (lv_at hl 0 rfl) ?_
          refine lv_ishl hx hb dX2_heldNodes_25 ?_
          refine lv_topi (fun v_59580 v_59580_e => ?_)
          refine lv_ior hx hb dX2_heldNodes_26 ?_
          refine lv_topi (fun v_59581 v_59581_e => ?_)
          refine lv_istore_n (lv' := [(1, .int v_59581), (2, .int x_59569), (0, .ref n)]) hx hb dX2_heldNodes_27 rfl hl (by decide) rfl (fun ls hl => ?_)
          obtain ⟨v_59582, v_59582_e⟩ : ∃ y : Int32, y = x_59569 + Int32.ofInt 1 := ⟨_, rfl⟩
          have h_v_59582 : 1 ≤ (v_59582 : Int32).toInt ∧ (v_59582 : Int32).toInt ≤ 12 := by rw [v_59582_e]; exact tr_add h_59573 (⟨by decide, by decide⟩ : 1 ≤ (Int32.ofInt 1 : Int32).toInt ∧ (Int32.ofInt 1 : Int32).toInt ≤ 1) (by decide) (by decide) (by decide) (by decide)
          have q_v_59582 : v_59582.toInt = x_59569.toInt + 1 := by rw [v_59582_e]; exact tr_addE h_59573 (⟨by decide, by decide⟩ : 1 ≤ (Int32.ofInt 1 : Int32).toInt ∧ (Int32.ofInt 1 : Int32).toInt ≤ 1) (by decide) (by decide)
          refine lv_iinc (v := v_59582) (lv' := [(2, .int v_59582), (1, .int v_59581), (0, .ref n)]) hx hb dX2_heldNodes_28 hl (k := 1) rfl v_59582_e.symm (by decide) rfl (fun ls hl => ?_)
          refine lv_goto (tgt := 4) hx hb dX2_heldNodes_31 (by decide) ?_
          exact ih_59571 v_59582 v_59581 ls (tr_w h_v_59582 (by decide) (by decide)) (by omega) (lv_sub hl [0, 1, 2] rfl)
  exact lp_59571 13 0 0 ls (⟨by decide, by decide⟩ : 0 ≤ (0 : Int32).toInt ∧ (0 : Int32).toInt ≤ 12) (by decide) (lv_sub hl [0, 1, 2] rfl)
set_option maxHeartbeats 4000000 in
set_option maxRecDepth 100000 in
theorem c_X2_setWeight (l : Launch) (D : va_G) (g : Nat → ClassId) (sz : Nat) (n : Nat) (p0 : Int32) (p1 : Int32) (p2 : Int32) (n_nodes : Int32) (n_kind : Nat) (n_pay : Nat) (n_name : Nat) (n_ways : Nat) (n_held : Nat) (n_targets : Nat) (n_weights : Nat) (n_fweights : Nat → Int32) (h_p0 : 0 ≤ (p0 : Int32).toInt ∧ (p0 : Int32).toInt ≤ 11) (h_p1 : 0 ≤ (p1 : Int32).toInt ∧ (p1 : Int32).toInt ≤ 2) (h_n_nodes : 0 ≤ (n_nodes : Int32).toInt ∧ (n_nodes : Int32).toInt ≤ 12) : Met l yX2_setWeight (.code yX2_setWeight cX2_setWeight 4 none :: wsL_law) ({ frames := 0, cells := 0, slots := 0, locals := 0 }) (va_Pc [.ref n, .int p0, .int p1, .int p2] (fun U => U.heap.size = sz ∧ va_P D vwCl [(wO2 n n_nodes n_kind n_pay n_name n_ways n_held n_targets n_weights), (wI g n_weights 0 36 n_fweights)] U.heap ∧ va_K D vwCl (TY g) U ∧ va_D (fun _ => True) [(wO2 n n_nodes n_kind n_pay n_name n_ways n_held n_targets n_weights), (wI g n_weights 0 36 n_fweights)])) (va_Qv (fun (_ : Unit) => True) (fun _ t => ∃ n_gweights : Nat → Int32, va_P D vwCl [(wO2 n n_nodes n_kind n_pay n_name n_ways n_held n_targets n_weights), (wI g n_weights 0 36 n_gweights)] t.heap ∧ va_D (va_A [(wO2 n n_nodes n_kind n_pay n_name n_ways n_held n_targets n_weights), (wI g n_weights 0 36 n_fweights)] sz) [(wO2 n n_nodes n_kind n_pay n_name n_ways n_held n_targets n_weights), (wI g n_weights 0 36 n_gweights)]) (va_A [(wO2 n n_nodes n_kind n_pay n_name n_ways n_held n_targets n_weights), (wI g n_weights 0 36 n_fweights)] sz)) 0 0 (va_A [(wO2 n n_nodes n_kind n_pay n_name n_ways n_held n_targets n_weights), (wI g n_weights 0 36 n_fweights)] sz) := by
  refine Met.ofW (cc := cX2_setWeight) (maxL := 4) (ret := none) (by decide) rfl ?_
  intro p e s m args below meth c s₁ B hml hv
  obtain ⟨ha, hsz, hP, hK, hD0⟩ := hv
  have hx := B.exec
  have hb := B.bytes
  have hr := B.returns
  have hts0 := atoms_spec (ws := (.code yX2_setWeight cX2_setWeight 4 none :: wsL_law)) B.pre
  have hts : ∀ w ∈ wsL_law, w.before args s = true := fun w h => hts0 w (List.mem_cons_of_mem _ h)
  have hown : s.vm.findClass RX2 = some m.cls := findClass_of_methodNamed B.named
  have hlocks := B.notSynchronized
  subst hsz
  have hD := hD0.self (sz := s.heap.size)
  generalize hAe : va_A [(wO2 n n_nodes n_kind n_pay n_name n_ways n_held n_targets n_weights), (wI g n_weights 0 36 n_fweights)] s.heap.size = A at hD ⊢
  have hA : ∀ q : Nat, s.heap.size ≤ q → A q := fun q h => by rw [← hAe]; exact Or.inr h
  have hS : va_S A s.heap s.heap [] := va_S.rf
  have hP : va_P D vwCl [(wO2 n n_nodes n_kind n_pay n_name n_ways n_held n_targets n_weights), (wI g n_weights 0 36 n_fweights)] s.heap := hP
  refine W.eq (g2 := entryFrame m ([.ref n, .int p0, .int p1, .int p2] : List Value).toArray 4) (by rw [ha]) ?_
  have hl := lv_entry ([.ref n, .int p0, .int p1, .int p2]) (n := 4) (Nat.le_of_ble_eq_true rfl)
  rw [lg_entry_eq]
  generalize (lg_sl ([.ref n, .int p0, .int p1, .int p2]) ++ List.replicate (4 - (lg_sl ([.ref n, .int p0, .int p1, .int p2])).length) Slot.unset).toArray = ls at hl ⊢
  have hl : lv_has ls 4 [(0, .ref n), (1, .int p0), (2, .int p1), (3, .int p2)] := hl
  refine lv_aload_n hx hb dX2_setWeight_0 rfl (lv_at hl 0 rfl) ?_
  refine va_get (D := D) (ci := 2) (v := .ref n_weights) (C := RX2) (T := TX2) (N := 8) hx hb hts inlX2 hown hK hP 0 rfl rfl 7 (by decide) (hts (Cond.fieldLink RX2 30 "ChanceRings$Net" "weights" "[I") qw_332) (fun _ h9 => h9) rfl dX2_setWeight_1 ?_
  refine lv_iload_n hx hb dX2_setWeight_4 rfl (lv_at hl 1 rfl) ?_
  refine lv_iconst (v := 3) hx hb dX2_setWeight_5 (by decide) ?_
  refine lv_imul hx hb dX2_setWeight_6 ?_
  refine lv_topi (fun v_59583 v_59583_e => ?_)
  have h_v_59583 : 0 ≤ (v_59583 : Int32).toInt ∧ (v_59583 : Int32).toInt ≤ 33 := by rw [v_59583_e]; exact tr_mul h_p0 (⟨by decide, by decide⟩ : 3 ≤ (3 : Int32).toInt ∧ (3 : Int32).toInt ≤ 3) (by decide) (by decide) (by decide) (by decide)
  refine lv_iload_n hx hb dX2_setWeight_7 rfl (lv_at hl 2 rfl) ?_
  refine lv_iadd hx hb dX2_setWeight_8 ?_
  refine lv_topi (fun v_59584 v_59584_e => ?_)
  have h_v_59584 : 0 ≤ (v_59584 : Int32).toInt ∧ (v_59584 : Int32).toInt ≤ 35 := by rw [v_59584_e]; exact tr_add h_v_59583 h_p1 (by decide) (by decide) (by decide) (by decide)
  refine lv_iload_n hx hb dX2_setWeight_9 rfl (lv_at hl 3 rfl) ?_
  refine va_iast hx hb hK hP hD hS 1 0 rfl rfl (tr_in h_v_59584 (by decide) (by decide)) dX2_setWeight_10 (fun H locs hP hD hS => ?_)
  obtain ⟨f_59585, hP, hD⟩ : ∃ FX : Nat → Int32, va_P D vwCl [(wO2 n n_nodes n_kind n_pay n_name n_ways n_held n_targets n_weights), (wI g n_weights 0 36 FX)] H ∧ va_D A [(wO2 n n_nodes n_kind n_pay n_name n_ways n_held n_targets n_weights), (wI g n_weights 0 36 FX)] := ⟨_, hP, hD⟩
  have hP : va_P D vwCl [(wO2 n n_nodes n_kind n_pay n_name n_ways n_held n_targets n_weights), (wI g n_weights 0 36 f_59585)] H := hP
  have hD : va_D A [(wO2 n n_nodes n_kind n_pay n_name n_ways n_held n_targets n_weights), (wI g n_weights 0 36 f_59585)] := hD
  have hP9 := hP.sub (ws' := [(wO2 n n_nodes n_kind n_pay n_name n_ways n_held n_targets n_weights), (wI g n_weights 0 36 f_59585)]) [0, 1] rfl
  have hD9 := hD.sub (ws' := [(wO2 n n_nodes n_kind n_pay n_name n_ways n_held n_targets n_weights), (wI g n_weights 0 36 f_59585)]) [0, 1] (by decide) rfl
  exact W.vret hx hb hr (fun t ht hW => ⟨⟨(), rfl, trivial, f_59585, by rw [ht]; exact hP9, hD9⟩, hS.F ht⟩) hS.2.2 dX2_setWeight_11
