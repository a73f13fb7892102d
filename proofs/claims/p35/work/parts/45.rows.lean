theorem qw_39 : Cond.fieldLink RX12 17 "ChanceRingsModel" "spare" "[I" ∈ wsL_law := tseg_5 (by decide +kernel) (List.mem_of_getElem? (i := 129) (by decide +kernel))
theorem dX12_copies_0 : decode cX12_copies 0 = .ok (.iconst 0, 1) := by decide +kernel
theorem dX12_copies_1 : decode cX12_copies 1 = .ok (.istore 4, 2) := by decide +kernel
theorem dX12_copies_3 : decode cX12_copies 3 = .ok (.iload 4, 2) := by decide +kernel
theorem dX12_copies_5 : decode cX12_copies 5 = .ok (.sipush 193, 3) := by decide +kernel
theorem dX12_copies_8 : decode cX12_copies 8 = .ok (.if_icmp .ge 21, 3) := by decide +kernel
theorem dX12_copies_11 : decode cX12_copies 11 = .ok (.aload_n 2, 1) := by decide +kernel
theorem dX12_copies_12 : decode cX12_copies 12 = .ok (.iload_n 3, 1) := by decide +kernel
theorem dX12_copies_13 : decode cX12_copies 13 = .ok (.iload 4, 2) := by decide +kernel
theorem dX12_copies_15 : decode cX12_copies 15 = .ok (.iadd, 1) := by decide +kernel
theorem dX12_copies_16 : decode cX12_copies 16 = .ok (.aload_n 0, 1) := by decide +kernel
theorem dX12_copies_17 : decode cX12_copies 17 = .ok (.iload_n 1, 1) := by decide +kernel
theorem dX12_copies_18 : decode cX12_copies 18 = .ok (.iload 4, 2) := by decide +kernel
theorem dX12_copies_20 : decode cX12_copies 20 = .ok (.iadd, 1) := by decide +kernel
theorem dX12_copies_21 : decode cX12_copies 21 = .ok (.iaload, 1) := by decide +kernel
theorem dX12_copies_22 : decode cX12_copies 22 = .ok (.iastore, 1) := by decide +kernel
theorem dX12_copies_23 : decode cX12_copies 23 = .ok (.iinc 4 1, 3) := by decide +kernel
theorem dX12_copies_26 : decode cX12_copies 26 = .ok (.goto (-23), 3) := by decide +kernel
theorem dX12_copies_29 : decode cX12_copies 29 = .ok (.return_, 1) := by decide +kernel
theorem dX12_manyOf_0 : decode cX12_manyOf 0 = .ok (.iconst 0, 1) := by decide +kernel
theorem dX12_manyOf_1 : decode cX12_manyOf 1 = .ok (.istore_n 3, 1) := by decide +kernel
theorem dX12_manyOf_2 : decode cX12_manyOf 2 = .ok (.iconst 0, 1) := by decide +kernel
theorem dX12_manyOf_3 : decode cX12_manyOf 3 = .ok (.istore 4, 2) := by decide +kernel
theorem dX12_manyOf_5 : decode cX12_manyOf 5 = .ok (.iload 4, 2) := by decide +kernel
theorem dX12_manyOf_7 : decode cX12_manyOf 7 = .ok (.aload_n 1, 1) := by decide +kernel
theorem dX12_manyOf_8 : decode cX12_manyOf 8 = .ok (.iconst 0, 1) := by decide +kernel
theorem dX12_manyOf_9 : decode cX12_manyOf 9 = .ok (.iaload, 1) := by decide +kernel
theorem dX12_manyOf_10 : decode cX12_manyOf 10 = .ok (.if_icmp .ge 27, 3) := by decide +kernel
theorem dX12_manyOf_13 : decode cX12_manyOf 13 = .ok (.iload_n 3, 1) := by decide +kernel
theorem dX12_manyOf_14 : decode cX12_manyOf 14 = .ok (.aload_n 1, 1) := by decide +kernel
theorem dX12_manyOf_15 : decode cX12_manyOf 15 = .ok (.iconst 1, 1) := by decide +kernel
theorem dX12_manyOf_16 : decode cX12_manyOf 16 = .ok (.iload 4, 2) := by decide +kernel
theorem dX12_manyOf_18 : decode cX12_manyOf 18 = .ok (.iadd, 1) := by decide +kernel
theorem dX12_manyOf_19 : decode cX12_manyOf 19 = .ok (.iaload, 1) := by decide +kernel
theorem dX12_manyOf_20 : decode cX12_manyOf 20 = .ok (.iload_n 2, 1) := by decide +kernel
theorem dX12_manyOf_21 : decode cX12_manyOf 21 = .ok (.if_icmp .ne 7, 3) := by decide +kernel
theorem dX12_manyOf_24 : decode cX12_manyOf 24 = .ok (.iconst 1, 1) := by decide +kernel
theorem dX12_manyOf_25 : decode cX12_manyOf 25 = .ok (.goto 4, 3) := by decide +kernel
theorem dX12_manyOf_28 : decode cX12_manyOf 28 = .ok (.iconst 0, 1) := by decide +kernel
theorem dX12_manyOf_29 : decode cX12_manyOf 29 = .ok (.iadd, 1) := by decide +kernel
theorem dX12_manyOf_30 : decode cX12_manyOf 30 = .ok (.istore_n 3, 1) := by decide +kernel
theorem dX12_manyOf_31 : decode cX12_manyOf 31 = .ok (.iinc 4 1, 3) := by decide +kernel
theorem dX12_manyOf_34 : decode cX12_manyOf 34 = .ok (.goto (-29), 3) := by decide +kernel
theorem dX12_manyOf_37 : decode cX12_manyOf 37 = .ok (.iload_n 3, 1) := by decide +kernel
theorem dX12_manyOf_38 : decode cX12_manyOf 38 = .ok (.ireturn, 1) := by decide +kernel
theorem dX12_named_0 : decode cX12_named 0 = .ok (.iconst 0, 1) := by decide +kernel
theorem dX12_named_1 : decode cX12_named 1 = .ok (.istore_n 1, 1) := by decide +kernel
theorem dX12_named_2 : decode cX12_named 2 = .ok (.iload_n 1, 1) := by decide +kernel
theorem dX12_named_3 : decode cX12_named 3 = .ok (.aload_n 0, 1) := by decide +kernel
theorem dX12_named_4 : decode cX12_named 4 = .ok (.getfield 17, 3) := by decide +kernel
theorem dX12_named_7 : decode cX12_named 7 = .ok (.iconst 0, 1) := by decide +kernel
theorem dX12_named_8 : decode cX12_named 8 = .ok (.iaload, 1) := by decide +kernel
theorem dX12_named_9 : decode cX12_named 9 = .ok (.if_icmp .ge 76, 3) := by decide +kernel
theorem dX12_named_12 : decode cX12_named 12 = .ok (.iconst 1, 1) := by decide +kernel
theorem dX12_named_13 : decode cX12_named 13 = .ok (.istore_n 2, 1) := by decide +kernel
theorem dX12_named_14 : decode cX12_named 14 = .ok (.iconst 0, 1) := by decide +kernel
theorem dX12_named_15 : decode cX12_named 15 = .ok (.istore_n 3, 1) := by decide +kernel
theorem dX12_named_16 : decode cX12_named 16 = .ok (.iload_n 3, 1) := by decide +kernel
theorem dX12_named_17 : decode cX12_named 17 = .ok (.bipush 6, 2) := by decide +kernel
theorem dX12_named_19 : decode cX12_named 19 = .ok (.if_icmp .ge 54, 3) := by decide +kernel
theorem dX12_named_22 : decode cX12_named 22 = .ok (.iload_n 2, 1) := by decide +kernel
theorem dX12_named_23 : decode cX12_named 23 = .ok (.ifCond .eq 50, 3) := by decide +kernel
theorem dX12_named_26 : decode cX12_named 26 = .ok (.aload_n 0, 1) := by decide +kernel
theorem dX12_named_27 : decode cX12_named 27 = .ok (.getfield 17, 3) := by decide +kernel
theorem dX12_named_30 : decode cX12_named 30 = .ok (.bipush 121, 2) := by decide +kernel
theorem dX12_named_32 : decode cX12_named 32 = .ok (.bipush 6, 2) := by decide +kernel
theorem dX12_named_34 : decode cX12_named 34 = .ok (.iload_n 1, 1) := by decide +kernel
theorem dX12_named_35 : decode cX12_named 35 = .ok (.imul, 1) := by decide +kernel
theorem dX12_named_36 : decode cX12_named 36 = .ok (.iadd, 1) := by decide +kernel
theorem dX12_named_37 : decode cX12_named 37 = .ok (.iload_n 3, 1) := by decide +kernel
theorem dX12_named_38 : decode cX12_named 38 = .ok (.iadd, 1) := by decide +kernel
theorem dX12_named_39 : decode cX12_named 39 = .ok (.iaload, 1) := by decide +kernel
theorem dX12_named_40 : decode cX12_named 40 = .ok (.iload_n 3, 1) := by decide +kernel
theorem dX12_named_41 : decode cX12_named 41 = .ok (.aload_n 0, 1) := by decide +kernel
theorem dX12_named_42 : decode cX12_named 42 = .ok (.getfield 129, 3) := by decide +kernel
theorem dX12_named_45 : decode cX12_named 45 = .ok (.if_icmp .ge 12, 3) := by decide +kernel
theorem dX12_named_48 : decode cX12_named 48 = .ok (.aload_n 0, 1) := by decide +kernel
theorem dX12_named_49 : decode cX12_named 49 = .ok (.getfield 37, 3) := by decide +kernel
theorem dX12_named_52 : decode cX12_named 52 = .ok (.iload_n 3, 1) := by decide +kernel
theorem dX12_named_53 : decode cX12_named 53 = .ok (.baload, 1) := by decide +kernel
theorem dX12_named_54 : decode cX12_named 54 = .ok (.goto 4, 3) := by decide +kernel
theorem dX12_named_57 : decode cX12_named 57 = .ok (.iconst 0, 1) := by decide +kernel
theorem dX12_named_58 : decode cX12_named 58 = .ok (.if_icmp .ne 7, 3) := by decide +kernel
theorem dX12_named_61 : decode cX12_named 61 = .ok (.iconst 1, 1) := by decide +kernel
theorem dX12_named_62 : decode cX12_named 62 = .ok (.goto 4, 3) := by decide +kernel
theorem dX12_named_65 : decode cX12_named 65 = .ok (.iconst 0, 1) := by decide +kernel
theorem dX12_named_66 : decode cX12_named 66 = .ok (.istore_n 2, 1) := by decide +kernel
theorem dX12_named_67 : decode cX12_named 67 = .ok (.iinc 3 1, 3) := by decide +kernel
theorem dX12_named_70 : decode cX12_named 70 = .ok (.goto (-54), 3) := by decide +kernel
theorem dX12_named_73 : decode cX12_named 73 = .ok (.iload_n 2, 1) := by decide +kernel
theorem dX12_named_74 : decode cX12_named 74 = .ok (.ifCond .eq 5, 3) := by decide +kernel
theorem dX12_named_77 : decode cX12_named 77 = .ok (.iload_n 1, 1) := by decide +kernel
theorem dX12_named_78 : decode cX12_named 78 = .ok (.ireturn, 1) := by decide +kernel
theorem dX12_named_79 : decode cX12_named 79 = .ok (.iinc 1 1, 3) := by decide +kernel
theorem dX12_named_82 : decode cX12_named 82 = .ok (.goto (-80), 3) := by decide +kernel
theorem dX12_named_85 : decode cX12_named 85 = .ok (.iconst (-1), 1) := by decide +kernel
theorem dX12_named_86 : decode cX12_named 86 = .ok (.ireturn, 1) := by decide +kernel
theorem dX12_weights_0 : decode cX12_weights 0 = .ok (.iconst 0, 1) := by decide +kernel
theorem dX12_weights_1 : decode cX12_weights 1 = .ok (.istore_n 2, 1) := by decide +kernel
theorem dX12_weights_2 : decode cX12_weights 2 = .ok (.iconst 0, 1) := by decide +kernel
theorem dX12_weights_3 : decode cX12_weights 3 = .ok (.istore_n 3, 1) := by decide +kernel
theorem dX12_weights_4 : decode cX12_weights 4 = .ok (.iload_n 3, 1) := by decide +kernel
theorem dX12_weights_5 : decode cX12_weights 5 = .ok (.aload_n 0, 1) := by decide +kernel
theorem dX12_weights_6 : decode cX12_weights 6 = .ok (.bipush 25, 2) := by decide +kernel
theorem dX12_weights_8 : decode cX12_weights 8 = .ok (.iload_n 1, 1) := by decide +kernel
theorem dX12_weights_9 : decode cX12_weights 9 = .ok (.iadd, 1) := by decide +kernel
theorem dX12_weights_10 : decode cX12_weights 10 = .ok (.iaload, 1) := by decide +kernel
theorem dX12_weights_11 : decode cX12_weights 11 = .ok (.if_icmp .ge 22, 3) := by decide +kernel
theorem dX12_weights_14 : decode cX12_weights 14 = .ok (.iload_n 2, 1) := by decide +kernel
theorem dX12_weights_15 : decode cX12_weights 15 = .ok (.aload_n 0, 1) := by decide +kernel
theorem dX12_weights_16 : decode cX12_weights 16 = .ok (.bipush 73, 2) := by decide +kernel
theorem dX12_weights_18 : decode cX12_weights 18 = .ok (.iconst 3, 1) := by decide +kernel
theorem dX12_weights_19 : decode cX12_weights 19 = .ok (.iload_n 1, 1) := by decide +kernel
theorem dX12_weights_20 : decode cX12_weights 20 = .ok (.imul, 1) := by decide +kernel
theorem dX12_weights_21 : decode cX12_weights 21 = .ok (.iadd, 1) := by decide +kernel
theorem dX12_weights_22 : decode cX12_weights 22 = .ok (.iload_n 3, 1) := by decide +kernel
theorem dX12_weights_23 : decode cX12_weights 23 = .ok (.iadd, 1) := by decide +kernel
theorem dX12_weights_24 : decode cX12_weights 24 = .ok (.iaload, 1) := by decide +kernel
theorem dX12_weights_25 : decode cX12_weights 25 = .ok (.iadd, 1) := by decide +kernel
theorem dX12_weights_26 : decode cX12_weights 26 = .ok (.istore_n 2, 1) := by decide +kernel
theorem dX12_weights_27 : decode cX12_weights 27 = .ok (.iinc 3 1, 3) := by decide +kernel
theorem dX12_weights_30 : decode cX12_weights 30 = .ok (.goto (-26), 3) := by decide +kernel
theorem dX12_weights_33 : decode cX12_weights 33 = .ok (.iload_n 2, 1) := by decide +kernel
theorem dX12_weights_34 : decode cX12_weights 34 = .ok (.ireturn, 1) := by decide +kernel
theorem tk_25 : (25 : Int32).toInt = 25 := by decide
theorem tk_73 : (73 : Int32).toInt = 73 := by decide
theorem tk_121 : (121 : Int32).toInt = 121 := by decide
theorem tk_193 : (193 : Int32).toInt = 193 := by decide
set_option maxHeartbeats 4000000 in
set_option maxRecDepth 100000 in
theorem c_X12_named (l : Launch) (D : va_G) (g : Nat → ClassId) (mm : Nat) (i_thrown : Int32) (m_s : Nat) (m_spare : Nat) (m_kept : Nat) (m_undone : Nat) (m_triedWay : Nat) (m_isKept : Nat) (i_undoMany : Int32) (m_tape : Nat) (i_length : Int32) (i_size : Int32) (i_p : Int32) (i_at : Int32) (i_token : Int32) (i_number : Int32) (i_letterMany : Int32) (i_fault : Int32) (i_faultAt : Int32) (m_letters : Nat) (i_isKnown : Int32) (m_choice : Nat) (m_row : Nat) (m_up : Nat) (m_low : Nat) (m_m : Nat) (m_bestUp : Nat) (m_bestLow : Nat) (m_replyUp : Nat) (m_replyLow : Nat) (m_worthUp : Nat) (m_worthLow : Nat) (m_bestWay : Nat) (i_seed : Int32) (m_told : Nat) (i_toldMany : Int32) (spf : Nat → Int32) (lf : Nat → Int32) (h_i_undoMany : 0 ≤ (i_undoMany : Int32).toInt ∧ (i_undoMany : Int32).toInt ≤ 8) (h_i_length : 0 ≤ (i_length : Int32).toInt ∧ (i_length : Int32).toInt ≤ 440) (h_i_size : 0 ≤ (i_size : Int32).toInt ∧ (i_size : Int32).toInt ≤ 440) (h_i_p : 0 ≤ (i_p : Int32).toInt ∧ (i_p : Int32).toInt ≤ 440) (h_i_at : 0 ≤ (i_at : Int32).toInt ∧ (i_at : Int32).toInt ≤ 440) (h_i_token : 0 ≤ (i_token : Int32).toInt ∧ (i_token : Int32).toInt ≤ 4) (h_i_number : 0 ≤ (i_number : Int32).toInt ∧ (i_number : Int32).toInt ≤ 814) (h_i_letterMany : (-440) ≤ (i_letterMany : Int32).toInt ∧ (i_letterMany : Int32).toInt ≤ 440) (h_i_isKnown : 0 ≤ (i_isKnown : Int32).toInt ∧ (i_isKnown : Int32).toInt ≤ 1) (h_i_toldMany : 0 ≤ (i_toldMany : Int32).toInt ∧ (i_toldMany : Int32).toInt ≤ 900) (hG : GR spf) : Met l yX12_named (.code yX12_named cX12_named 4 (some .int) :: wsL_law) ({ frames := 0, cells := 0, slots := 0, locals := 0 }) (va_Pc [.ref mm] (fun U => va_P D vwCl [(mm, .inr (12, (.int i_thrown :: .ref m_s :: .ref m_spare :: .ref m_kept :: .ref m_undone :: .ref m_triedWay :: .ref m_isKept :: .int i_undoMany :: .ref m_tape :: .int i_length :: .int i_size :: .int i_p :: .int i_at :: .int i_token :: .int i_number :: .int i_letterMany :: .int i_fault :: .int i_faultAt :: .ref m_letters :: .int i_isKnown :: .ref m_choice :: .ref m_row :: .ref m_up :: .ref m_low :: .ref m_m :: .ref m_bestUp :: .ref m_bestLow :: .ref m_replyUp :: .ref m_replyLow :: .ref m_worthUp :: .ref m_worthLow :: .ref m_bestWay :: .int i_seed :: .ref m_told :: .int i_toldMany :: []))), (m_spare, .inl (g 0, 193, .inl spf)), (m_letters, .inl (g 2, 6, .inl lf))] U.heap ∧ va_K D vwCl (TY g) U)) (vp_Si (fun r => ((-1) ≤ (r : Int32).toInt ∧ (r : Int32).toInt ≤ 11) ∧ (Hide (0 ≤ (r : Int32).toInt → (r : Int32).toInt < (spf 0).toInt)))) 0 0 (fun _ => False) := by
  refine Met.ofW (cc := cX12_named) (maxL := 4) (ret := (some .int)) (by decide) rfl ?_
  intro p e s m args below meth c s₁ B hml hv
  obtain ⟨ha, hP, hK⟩ := hv
  have hx := B.exec
  have hb := B.bytes
  have hr := B.returns
  have hts0 := atoms_spec (ws := (.code yX12_named cX12_named 4 (some .int) :: wsL_law)) B.pre
  have hts : ∀ w ∈ wsL_law, w.before args s = true := fun w h => hts0 w (List.mem_cons_of_mem _ h)
  have hown : s.vm.findClass RX12 = some m.cls := findClass_of_methodNamed B.named
  have hlocks := B.notSynchronized
  have hP : va_P D vwCl [(mm, .inr (12, (.int i_thrown :: .ref m_s :: .ref m_spare :: .ref m_kept :: .ref m_undone :: .ref m_triedWay :: .ref m_isKept :: .int i_undoMany :: .ref m_tape :: .int i_length :: .int i_size :: .int i_p :: .int i_at :: .int i_token :: .int i_number :: .int i_letterMany :: .int i_fault :: .int i_faultAt :: .ref m_letters :: .int i_isKnown :: .ref m_choice :: .ref m_row :: .ref m_up :: .ref m_low :: .ref m_m :: .ref m_bestUp :: .ref m_bestLow :: .ref m_replyUp :: .ref m_replyLow :: .ref m_worthUp :: .ref m_worthLow :: .ref m_bestWay :: .int i_seed :: .ref m_told :: .int i_toldMany :: []))), (m_spare, .inl (g 0, 193, .inl spf)), (m_letters, .inl (g 2, 6, .inl lf))] s.heap := hP
  refine W.eq (g2 := entryFrame m ([.ref mm] : List Value).toArray 4) (by rw [ha]) ?_
  have hl := lv_entry ([.ref mm]) (n := 4) (Nat.le_of_ble_eq_true rfl)
  rw [lg_entry_eq]
  generalize (lg_sl ([.ref mm]) ++ List.replicate (4 - (lg_sl ([.ref mm])).length) Slot.unset).toArray = ls at hl ⊢
  have hl : lv_has ls 4 [(0, .ref mm)] := hl
  refine lv_iconst (v := 0) hx hb dX12_named_0 (by decide) ?_
  refine lv_istore_n (lv' := [(1, .int 0), (0, .ref mm)]) hx hb dX12_named_1 rfl hl (by decide) rfl (fun ls hl => ?_)
  have lp_3673 : ∀ (n_3673 : Nat) (x_3672 : Int32) (ls : Array Slot), (0 ≤ (x_3672 : Int32).toInt ∧ (x_3672 : Int32).toInt ≤ 12) → (12 - x_3672.toInt < (n_3673 : Int)) → lv_has ls 4 [(1, .int x_3672), (0, .ref mm)] → W p l e (headSpec (.code yX12_named cX12_named 4 (some .int) :: wsL_law) ({ frames := 0, cells := 0, slots := 0, locals := 0 })).room s m args below meth c s.heap [] 0 0 (MQ below (vp_Si (fun r => ((-1) ≤ (r : Int32).toInt ∧ (r : Int32).toInt ≤ 11) ∧ (Hide (0 ≤ (r : Int32).toInt → (r : Int32).toInt < (spf 0).toInt)))) args s 0 0 (fun _ => False)) (F0 m 2 ls []) := by
    intro n_3673
    induction n_3673 with
    | zero =>
      intro x_3672 ls h_x_3672 hm_3673 hl
      exfalso; omega
    | succ n_3673 ih_3673 =>
      intro x_3672 ls h_x_3672 hm_3673 hl
      refine lv_iload_n hx hb dX12_named_2 rfl (lv_at hl 0 rfl) ?_
      refine lv_aload_n hx hb dX12_named_3 rfl (lv_at hl 1 rfl) ?_
      refine va_get (D := D) (ci := 12) (v := .ref m_spare) (C := RX12) (T := TX12) (N := 35) hx hb hts inlX12 hown hK hP 0 rfl rfl 2 (by decide) (hts (Cond.fieldLink RX12 17 "ChanceRingsModel" "spare" "[I") qw_39) (fun _ h9 => h9) rfl dX12_named_4 ?_
      refine lv_iconst (v := 0) hx hb dX12_named_7 (by decide) ?_
      refine va_iald hx hb hK hP 1 0 rfl rfl (tz_in (by decide +kernel)) dX12_named_8 ?_
      refine lv_topi (fun v_3674 v_3674_e => ?_)
      have h_v_3674 : 0 ≤ (v_3674 : Int32).toInt ∧ (v_3674 : Int32).toInt ≤ 12 := by rw [v_3674_e]; exact gr_nodes hG (⟨by decide, by decide⟩ : 0 ≤ (0 : Int32).toInt ∧ (0 : Int32).toInt ≤ 0)
      have g_v_3674 : v_3674 = spf (0) := v_3674_e.trans (congrArg spf rfl)
      have gi_v_3674 := congrArg Int32.toInt g_v_3674
      refine lv_icmp_ge (tgt := 85) hx hb dX12_named_9 (by decide) (fun c_3675 => ?_) (fun c_3675 => ?_)
      · skip
        have c_3675_i := Int32.le_iff_toInt_le.mp c_3675
        refine lv_iconst (v := (-1)) hx hb dX12_named_85 (by decide) ?_
        exact W.iret (v := (-1)) hx hb hr (fun t ht hW => ⟨(-1), rfl, ⟨(⟨by decide, by decide⟩ : (-1) ≤ ((-1) : Int32).toInt ∧ ((-1) : Int32).toInt ≤ 11), (fun h9 => by have z1 := tk_m1; omega)⟩, ht⟩) (fun _ h => nomatch h) dX12_named_86
      · skip
        have c_3675_i := Int32.lt_iff_toInt_lt.mp (Int32.not_le.mp c_3675)
        have c_3675_i := Int32.lt_iff_toInt_lt.mp (Int32.not_le.mp c_3675)
        have h_3676 : 0 ≤ (x_3672 : Int32).toInt ∧ (x_3672 : Int32).toInt ≤ 11 := by have q1 := h_x_3672; have q2 := h_v_3674; omega
        have h_3677 : 1 ≤ (v_3674 : Int32).toInt ∧ (v_3674 : Int32).toInt ≤ 12 := by have q1 := h_x_3672; have q2 := h_v_3674; omega
        refine lv_iconst (v := 1) hx hb dX12_named_12 (by decide) ?_
        refine lv_istore_n (lv' := [(2, .int 1), (1, .int x_3672), (0, .ref mm)]) hx hb dX12_named_13 rfl hl (by decide) rfl (fun ls hl => ?_)
        refine lv_iconst (v := 0) hx hb dX12_named_14 (by decide) ?_
        refine lv_istore_n (lv' := [(3, .int 0), (2, .int 1), (1, .int x_3672), (0, .ref mm)]) hx hb dX12_named_15 rfl hl (by decide) rfl (fun ls hl => ?_)
        have lp_3789 : ∀ (n_3789 : Nat) (x_3787 : Int32) (x_3788 : Int32) (ls : Array Slot), (0 ≤ (x_3787 : Int32).toInt ∧ (x_3787 : Int32).toInt ≤ 7) → (0 ≤ (x_3788 : Int32).toInt ∧ (x_3788 : Int32).toInt ≤ 1) → (7 - x_3787.toInt < (n_3789 : Int)) → lv_has ls 4 [(3, .int x_3787), (2, .int x_3788), (1, .int x_3672), (0, .ref mm)] → W p l e (headSpec (.code yX12_named cX12_named 4 (some .int) :: wsL_law) ({ frames := 0, cells := 0, slots := 0, locals := 0 })).room s m args below meth c s.heap [] 0 0 (MQ below (vp_Si (fun r => ((-1) ≤ (r : Int32).toInt ∧ (r : Int32).toInt ≤ 11) ∧ (Hide (0 ≤ (r : Int32).toInt → (r : Int32).toInt < (spf 0).toInt)))) args s 0 0 (fun _ => False)) (F0 m 16 ls []) := by
          intro n_3789
          induction n_3789 with
          | zero =>
            intro x_3787 x_3788 ls h_x_3787 h_x_3788 hm_3789 hl
            exfalso; omega
          | succ n_3789 ih_3789 =>
            intro x_3787 x_3788 ls h_x_3787 h_x_3788 hm_3789 hl
            refine lv_iload_n hx hb dX12_named_16 rfl (lv_at hl 0 rfl) ?_
            refine lv_bipush (v := 6) hx hb dX12_named_17 (by decide) ?_
            refine lv_icmp_ge (tgt := 73) hx hb dX12_named_19 (by decide) (fun c_3790 => ?_) (fun c_3790 => ?_)
            · skip
              have kk_6 := tk_6
              have c_3790_i := Int32.le_iff_toInt_le.mp c_3790
              have c_3790_i := Int32.le_iff_toInt_le.mp c_3790
              have h_3791 : 6 ≤ (x_3787 : Int32).toInt ∧ (x_3787 : Int32).toInt ≤ 7 := by have q1 := h_x_3787; have q2 := (⟨by decide, by decide⟩ : 6 ≤ (6 : Int32).toInt ∧ (6 : Int32).toInt ≤ 6); omega
              refine lv_iload_n hx hb dX12_named_73 rfl (lv_at hl 1 rfl) ?_
              refine lv_if_eq (tgt := 79) hx hb dX12_named_74 (by decide) (fun c_3793 => ?_) (fun c_3793 => ?_)
              · skip
                have kk_0 := tk_0
                have c_3793_i := c_3793
                have c_3793_i : (x_3788 : Int32).toInt = (0 : Int32).toInt := congrArg Int32.toInt c_3793
                have c_3793_i := c_3793
                have c_3793_i : (x_3788 : Int32).toInt = (0 : Int32).toInt := congrArg Int32.toInt c_3793
                have h_3794 : 0 ≤ (x_3788 : Int32).toInt ∧ (x_3788 : Int32).toInt ≤ 0 := by have q1 := h_x_3788; have q2 := (⟨by decide, by decide⟩ : 0 ≤ (0 : Int32).toInt ∧ (0 : Int32).toInt ≤ 0); omega
                obtain ⟨v_3796, v_3796_e⟩ : ∃ y : Int32, y = x_3672 + Int32.ofInt 1 := ⟨_, rfl⟩
                have h_v_3796 : 1 ≤ (v_3796 : Int32).toInt ∧ (v_3796 : Int32).toInt ≤ 12 := by rw [v_3796_e]; exact tr_add h_3676 (⟨by decide, by decide⟩ : 1 ≤ (Int32.ofInt 1 : Int32).toInt ∧ (Int32.ofInt 1 : Int32).toInt ≤ 1) (by decide) (by decide) (by decide) (by decide)
                have q_v_3796 : v_3796.toInt = x_3672.toInt + 1 := by rw [v_3796_e]; exact tr_addE h_3676 (⟨by decide, by decide⟩ : 1 ≤ (Int32.ofInt 1 : Int32).toInt ∧ (Int32.ofInt 1 : Int32).toInt ≤ 1) (by decide) (by decide)
                refine lv_iinc (v := v_3796) (lv' := [(1, .int v_3796), (3, .int x_3787), (2, .int x_3788), (0, .ref mm)]) hx hb dX12_named_79 hl (k := 2) rfl v_3796_e.symm (by decide) rfl (fun ls hl => ?_)
                refine lv_goto (tgt := 2) hx hb dX12_named_82 (by decide) ?_
                exact ih_3673 v_3796 ls (tr_w h_v_3796 (by decide) (by decide)) (by omega) (lv_sub hl [0, 3] rfl)
              · skip
                have kk_0 := tk_0
                have c_3793_i := c_3793
                have c_3793_i : ¬ (x_3788 : Int32).toInt = (0 : Int32).toInt := (fun q => c_3793 (Int32.toInt_inj.mp q))
                have c_3793_i := c_3793
                have c_3793_i : ¬ (x_3788 : Int32).toInt = (0 : Int32).toInt := (fun q => c_3793 (Int32.toInt_inj.mp q))
                have h_3795 : 1 ≤ (x_3788 : Int32).toInt ∧ (x_3788 : Int32).toInt ≤ 1 := by have q1 := h_x_3788; have q2 := (⟨by decide, by decide⟩ : 0 ≤ (0 : Int32).toInt ∧ (0 : Int32).toInt ≤ 0); omega
                refine lv_iload_n hx hb dX12_named_77 rfl (lv_at hl 2 rfl) ?_
                exact W.iret (v := x_3672) hx hb hr (fun t ht hW => ⟨x_3672, rfl, ⟨(tr_w h_3676 (by decide) (by decide)), (fun _ => by have q8 := congrArg Int32.toInt g_v_3674; omega)⟩, ht⟩) (fun _ h => nomatch h) dX12_named_78
            · skip
              have kk_6 := tk_6
              have c_3790_i := Int32.lt_iff_toInt_lt.mp (Int32.not_le.mp c_3790)
              have c_3790_i := Int32.lt_iff_toInt_lt.mp (Int32.not_le.mp c_3790)
              have h_3792 : 0 ≤ (x_3787 : Int32).toInt ∧ (x_3787 : Int32).toInt ≤ 5 := by have q1 := h_x_3787; have q2 := (⟨by decide, by decide⟩ : 6 ≤ (6 : Int32).toInt ∧ (6 : Int32).toInt ≤ 6); omega
              refine lv_iload_n hx hb dX12_named_22 rfl (lv_at hl 1 rfl) ?_
              refine lv_if_eq (tgt := 73) hx hb dX12_named_23 (by decide) (fun c_3797 => ?_) (fun c_3797 => ?_)
              · skip
                have kk_0 := tk_0
                have c_3797_i := c_3797
                have c_3797_i : (x_3788 : Int32).toInt = (0 : Int32).toInt := congrArg Int32.toInt c_3797
                have c_3797_i := c_3797
                have c_3797_i : (x_3788 : Int32).toInt = (0 : Int32).toInt := congrArg Int32.toInt c_3797
                have h_3798 : 0 ≤ (x_3788 : Int32).toInt ∧ (x_3788 : Int32).toInt ≤ 0 := by have q1 := h_x_3788; have q2 := (⟨by decide, by decide⟩ : 0 ≤ (0 : Int32).toInt ∧ (0 : Int32).toInt ≤ 0); omega
                refine lv_iload_n hx hb dX12_named_73 rfl (lv_at hl 1 rfl) ?_
                refine lv_if_eq (tgt := 79) hx hb dX12_named_74 (by decide) (fun c_3800 => ?_) (fun h9 => by exfalso; have q1 := h_3798; have q2 := (⟨by decide, by decide⟩ : 0 ≤ (0 : Int32).toInt ∧ (0 : Int32).toInt ≤ 0); have h8 : ¬ (x_3788 : Int32).toInt = (0 : Int32).toInt := fun q => h9 (Int32.toInt_inj.mp q); omega)
                have c_3800_i := c_3800
                have c_3800_i : (x_3788 : Int32).toInt = (0 : Int32).toInt := congrArg Int32.toInt c_3800
                obtain ⟨v_3801, v_3801_e⟩ : ∃ y : Int32, y = x_3672 + Int32.ofInt 1 := ⟨_, rfl⟩
                have h_v_3801 : 1 ≤ (v_3801 : Int32).toInt ∧ (v_3801 : Int32).toInt ≤ 12 := by rw [v_3801_e]; exact tr_add h_3676 (⟨by decide, by decide⟩ : 1 ≤ (Int32.ofInt 1 : Int32).toInt ∧ (Int32.ofInt 1 : Int32).toInt ≤ 1) (by decide) (by decide) (by decide) (by decide)
                have q_v_3801 : v_3801.toInt = x_3672.toInt + 1 := by rw [v_3801_e]; exact tr_addE h_3676 (⟨by decide, by decide⟩ : 1 ≤ (Int32.ofInt 1 : Int32).toInt ∧ (Int32.ofInt 1 : Int32).toInt ≤ 1) (by decide) (by decide)
                refine lv_iinc (v := v_3801) (lv' := [(1, .int v_3801), (3, .int x_3787), (2, .int x_3788), (0, .ref mm)]) hx hb dX12_named_79 hl (k := 2) rfl v_3801_e.symm (by decide) rfl (fun ls hl => ?_)
                refine lv_goto (tgt := 2) hx hb dX12_named_82 (by decide) ?_
                exact ih_3673 v_3801 ls (tr_w h_v_3801 (by decide) (by decide)) (by omega) (lv_sub hl [0, 3] rfl)
              · skip
                have kk_0 := tk_0
                have c_3797_i := c_3797
                have c_3797_i : ¬ (x_3788 : Int32).toInt = (0 : Int32).toInt := (fun q => c_3797 (Int32.toInt_inj.mp q))
                have c_3797_i := c_3797
                have c_3797_i : ¬ (x_3788 : Int32).toInt = (0 : Int32).toInt := (fun q => c_3797 (Int32.toInt_inj.mp q))
                have h_3799 : 1 ≤ (x_3788 : Int32).toInt ∧ (x_3788 : Int32).toInt ≤ 1 := by have q1 := h_x_3788; have q2 := (⟨by decide, by decide⟩ : 0 ≤ (0 : Int32).toInt ∧ (0 : Int32).toInt ≤ 0); omega
                refine lv_aload_n hx hb dX12_named_26 rfl (lv_at hl 3 rfl) ?_
                refine va_get (D := D) (ci := 12) (v := .ref m_spare) (C := RX12) (T := TX12) (N := 35) hx hb hts inlX12 hown hK hP 0 rfl rfl 2 (by decide) (hts (Cond.fieldLink RX12 17 "ChanceRingsModel" "spare" "[I") qw_39) (fun _ h9 => h9) rfl dX12_named_27 ?_
                refine lv_bipush (v := 121) hx hb dX12_named_30 (by decide) ?_
                refine lv_bipush (v := 6) hx hb dX12_named_32 (by decide) ?_
                refine lv_iload_n hx hb dX12_named_34 rfl (lv_at hl 2 rfl) ?_
                refine lv_imul hx hb dX12_named_35 ?_
                refine lv_topi (fun v_3802 v_3802_e => ?_)
                have h_v_3802 : 0 ≤ (v_3802 : Int32).toInt ∧ (v_3802 : Int32).toInt ≤ 66 := by rw [v_3802_e]; exact tr_mul (⟨by decide, by decide⟩ : 6 ≤ (6 : Int32).toInt ∧ (6 : Int32).toInt ≤ 6) h_3676 (by decide) (by decide) (by decide) (by decide)
                have q_v_3802 : v_3802.toInt = 6 * x_3672.toInt := by rw [v_3802_e]; exact (tr_mulX (⟨by decide, by decide⟩ : 6 ≤ (6 : Int32).toInt ∧ (6 : Int32).toInt ≤ 6) h_3676 (by decide) (by decide)).trans (by rw [tk_6])
                refine lv_iadd hx hb dX12_named_36 ?_
                refine lv_topi (fun v_3803 v_3803_e => ?_)
                have h_v_3803 : 121 ≤ (v_3803 : Int32).toInt ∧ (v_3803 : Int32).toInt ≤ 187 := by rw [v_3803_e]; exact tr_add (⟨by decide, by decide⟩ : 121 ≤ (121 : Int32).toInt ∧ (121 : Int32).toInt ≤ 121) h_v_3802 (by decide) (by decide) (by decide) (by decide)
                have q_v_3803 : v_3803.toInt = 121 + v_3802.toInt := by rw [v_3803_e]; exact (tr_addX (⟨by decide, by decide⟩ : 121 ≤ (121 : Int32).toInt ∧ (121 : Int32).toInt ≤ 121) h_v_3802 (by decide) (by decide)).trans (by rw [tk_121])
                refine lv_iload_n hx hb dX12_named_37 rfl (lv_at hl 0 rfl) ?_
                refine lv_iadd hx hb dX12_named_38 ?_
                refine lv_topi (fun v_3804 v_3804_e => ?_)
                have h_v_3804 : 121 ≤ (v_3804 : Int32).toInt ∧ (v_3804 : Int32).toInt ≤ 192 := by rw [v_3804_e]; exact tr_add h_v_3803 h_3792 (by decide) (by decide) (by decide) (by decide)
                have q_v_3804 : v_3804.toInt = v_3803.toInt + x_3787.toInt := by rw [v_3804_e]; exact tr_addX h_v_3803 h_3792 (by decide) (by decide)
                refine va_iald hx hb hK hP 1 0 rfl rfl (tr_in h_v_3804 (by decide) (by decide)) dX12_named_39 ?_
                refine lv_topi (fun v_3805 v_3805_e => ?_)
                have g_v_3805 : v_3805 = spf (121 + 6 * x_3672.toInt.toNat + x_3787.toInt.toNat) := v_3805_e.trans (congrArg spf (by show Int.toNat _ = _; omega))
                have gi_v_3805 := congrArg Int32.toInt g_v_3805
                refine lv_iload_n hx hb dX12_named_40 rfl (lv_at hl 0 rfl) ?_
                refine lv_aload_n hx hb dX12_named_41 rfl (lv_at hl 3 rfl) ?_
                refine va_get (D := D) (ci := 12) (v := .int i_letterMany) (C := RX12) (T := TX12) (N := 35) hx hb hts inlX12 hown hK hP 0 rfl rfl 15 (by decide) (hts (Cond.fieldLink RX12 129 "ChanceRingsModel" "letterMany" "I") qw_32) (fun _ h9 => h9) rfl dX12_named_42 ?_
                refine lv_icmp_ge (tgt := 57) hx hb dX12_named_45 (by decide) (fun c_3806 => ?_) (fun c_3806 => ?_)
                · skip
                  have c_3806_i := Int32.le_iff_toInt_le.mp c_3806
                  have c_3806_i := Int32.le_iff_toInt_le.mp c_3806
                  have h_3807 : (-440) ≤ (i_letterMany : Int32).toInt ∧ (i_letterMany : Int32).toInt ≤ 5 := by have q1 := h_3792; have q2 := h_i_letterMany; omega
                  refine lv_iconst (v := 0) hx hb dX12_named_57 (by decide) ?_
                  refine lv_icmp_ne (tgt := 65) hx hb dX12_named_58 (by decide) (fun c_3809 => ?_) (fun c_3809 => ?_)
                  · skip
                    have c_3809_i := c_3809
                    have c_3809_i : ¬ (v_3805 : Int32).toInt = (0 : Int32).toInt := (fun q => c_3809 (Int32.toInt_inj.mp q))
                    refine lv_iconst (v := 0) hx hb dX12_named_65 (by decide) ?_
                    refine lv_istore_n (lv' := [(2, .int 0), (3, .int x_3787), (1, .int x_3672), (0, .ref mm)]) hx hb dX12_named_66 rfl hl (by decide) rfl (fun ls hl => ?_)
                    obtain ⟨v_3811, v_3811_e⟩ : ∃ y : Int32, y = x_3787 + Int32.ofInt 1 := ⟨_, rfl⟩
                    have h_v_3811 : 1 ≤ (v_3811 : Int32).toInt ∧ (v_3811 : Int32).toInt ≤ 6 := by rw [v_3811_e]; exact tr_add h_3792 (⟨by decide, by decide⟩ : 1 ≤ (Int32.ofInt 1 : Int32).toInt ∧ (Int32.ofInt 1 : Int32).toInt ≤ 1) (by decide) (by decide) (by decide) (by decide)
                    have q_v_3811 : v_3811.toInt = x_3787.toInt + 1 := by rw [v_3811_e]; exact tr_addE h_3792 (⟨by decide, by decide⟩ : 1 ≤ (Int32.ofInt 1 : Int32).toInt ∧ (Int32.ofInt 1 : Int32).toInt ≤ 1) (by decide) (by decide)
                    refine lv_iinc (v := v_3811) (lv' := [(3, .int v_3811), (2, .int 0), (1, .int x_3672), (0, .ref mm)]) hx hb dX12_named_67 hl (k := 1) rfl v_3811_e.symm (by decide) rfl (fun ls hl => ?_)
                    refine lv_goto (tgt := 16) hx hb dX12_named_70 (by decide) ?_
                    exact ih_3789 v_3811 0 ls (tr_w h_v_3811 (by decide) (by decide)) (⟨by decide, by decide⟩ : 0 ≤ (0 : Int32).toInt ∧ (0 : Int32).toInt ≤ 1) (by omega) (lv_sub hl [0, 1, 2, 3] rfl)
                  · skip
                    have c_3809_i := c_3809
                    have c_3809_i : (v_3805 : Int32).toInt = (0 : Int32).toInt := congrArg Int32.toInt c_3809
                    have h_3810 : 0 ≤ (v_3805 : Int32).toInt ∧ (v_3805 : Int32).toInt ≤ 0 := by rw [c_3809]; exact ⟨by decide, by decide⟩
                    refine lv_iconst (v := 1) hx hb dX12_named_61 (by decide) ?_
                    refine lv_goto (tgt := 66) hx hb dX12_named_62 (by decide) ?_
                    refine lv_istore_n (lv' := [(2, .int 1), (3, .int x_3787), (1, .int x_3672), (0, .ref mm)]) hx hb dX12_named_66 rfl hl (by decide) rfl (fun ls hl => ?_)
                    obtain ⟨v_3812, v_3812_e⟩ : ∃ y : Int32, y = x_3787 + Int32.ofInt 1 := ⟨_, rfl⟩
                    have h_v_3812 : 1 ≤ (v_3812 : Int32).toInt ∧ (v_3812 : Int32).toInt ≤ 6 := by rw [v_3812_e]; exact tr_add h_3792 (⟨by decide, by decide⟩ : 1 ≤ (Int32.ofInt 1 : Int32).toInt ∧ (Int32.ofInt 1 : Int32).toInt ≤ 1) (by decide) (by decide) (by decide) (by decide)
                    have q_v_3812 : v_3812.toInt = x_3787.toInt + 1 := by rw [v_3812_e]; exact tr_addE h_3792 (⟨by decide, by decide⟩ : 1 ≤ (Int32.ofInt 1 : Int32).toInt ∧ (Int32.ofInt 1 : Int32).toInt ≤ 1) (by decide) (by decide)
                    refine lv_iinc (v := v_3812) (lv' := [(3, .int v_3812), (2, .int 1), (1, .int x_3672), (0, .ref mm)]) hx hb dX12_named_67 hl (k := 1) rfl v_3812_e.symm (by decide) rfl (fun ls hl => ?_)
                    refine lv_goto (tgt := 16) hx hb dX12_named_70 (by decide) ?_
                    exact ih_3789 v_3812 1 ls (tr_w h_v_3812 (by decide) (by decide)) (⟨by decide, by decide⟩ : 0 ≤ (1 : Int32).toInt ∧ (1 : Int32).toInt ≤ 1) (by omega) (lv_sub hl [0, 1, 2, 3] rfl)
                · skip
                  have c_3806_i := Int32.lt_iff_toInt_lt.mp (Int32.not_le.mp c_3806)
                  have c_3806_i := Int32.lt_iff_toInt_lt.mp (Int32.not_le.mp c_3806)
                  have h_3808 : 1 ≤ (i_letterMany : Int32).toInt ∧ (i_letterMany : Int32).toInt ≤ 440 := by have q1 := h_3792; have q2 := h_i_letterMany; omega
                  refine lv_aload_n hx hb dX12_named_48 rfl (lv_at hl 3 rfl) ?_
                  refine va_get (D := D) (ci := 12) (v := .ref m_letters) (C := RX12) (T := TX12) (N := 35) hx hb hts inlX12 hown hK hP 0 rfl rfl 18 (by decide) (hts (Cond.fieldLink RX12 37 "ChanceRingsModel" "letters" "[B") qw_28) (fun _ h9 => h9) rfl dX12_named_49 ?_
                  refine lv_iload_n hx hb dX12_named_52 rfl (lv_at hl 0 rfl) ?_
                  refine va_bald hx hb hK hP 2 2 rfl rfl (tr_in h_3792 (by decide) (by decide)) dX12_named_53 ?_
                  refine lv_topi (fun v_3813 v_3813_e => ?_)
                  have g_v_3813 : v_3813 = lf (x_3787.toInt.toNat) := v_3813_e.trans (congrArg lf (by show Int.toNat _ = _; omega))
                  have gi_v_3813 := congrArg Int32.toInt g_v_3813
                  refine lv_goto (tgt := 58) hx hb dX12_named_54 (by decide) ?_
                  refine lv_icmp_ne (tgt := 65) hx hb dX12_named_58 (by decide) (fun c_3814 => ?_) (fun c_3814 => ?_)
                  · skip
                    have c_3814_i := c_3814
                    have c_3814_i : ¬ (v_3805 : Int32).toInt = (v_3813 : Int32).toInt := (fun q => c_3814 (Int32.toInt_inj.mp q))
                    refine lv_iconst (v := 0) hx hb dX12_named_65 (by decide) ?_
                    refine lv_istore_n (lv' := [(2, .int 0), (3, .int x_3787), (1, .int x_3672), (0, .ref mm)]) hx hb dX12_named_66 rfl hl (by decide) rfl (fun ls hl => ?_)
                    obtain ⟨v_3815, v_3815_e⟩ : ∃ y : Int32, y = x_3787 + Int32.ofInt 1 := ⟨_, rfl⟩
                    have h_v_3815 : 1 ≤ (v_3815 : Int32).toInt ∧ (v_3815 : Int32).toInt ≤ 6 := by rw [v_3815_e]; exact tr_add h_3792 (⟨by decide, by decide⟩ : 1 ≤ (Int32.ofInt 1 : Int32).toInt ∧ (Int32.ofInt 1 : Int32).toInt ≤ 1) (by decide) (by decide) (by decide) (by decide)
                    have q_v_3815 : v_3815.toInt = x_3787.toInt + 1 := by rw [v_3815_e]; exact tr_addE h_3792 (⟨by decide, by decide⟩ : 1 ≤ (Int32.ofInt 1 : Int32).toInt ∧ (Int32.ofInt 1 : Int32).toInt ≤ 1) (by decide) (by decide)
                    refine lv_iinc (v := v_3815) (lv' := [(3, .int v_3815), (2, .int 0), (1, .int x_3672), (0, .ref mm)]) hx hb dX12_named_67 hl (k := 1) rfl v_3815_e.symm (by decide) rfl (fun ls hl => ?_)
                    refine lv_goto (tgt := 16) hx hb dX12_named_70 (by decide) ?_
                    exact ih_3789 v_3815 0 ls (tr_w h_v_3815 (by decide) (by decide)) (⟨by decide, by decide⟩ : 0 ≤ (0 : Int32).toInt ∧ (0 : Int32).toInt ≤ 1) (by omega) (lv_sub hl [0, 1, 2, 3] rfl)
                  · skip
                    have c_3814_i := c_3814
                    have c_3814_i : (v_3805 : Int32).toInt = (v_3813 : Int32).toInt := congrArg Int32.toInt c_3814
                    refine lv_iconst (v := 1) hx hb dX12_named_61 (by decide) ?_
                    refine lv_goto (tgt := 66) hx hb dX12_named_62 (by decide) ?_
                    refine lv_istore_n (lv' := [(2, .int 1), (3, .int x_3787), (1, .int x_3672), (0, .ref mm)]) hx hb dX12_named_66 rfl hl (by decide) rfl (fun ls hl => ?_)
                    obtain ⟨v_3816, v_3816_e⟩ : ∃ y : Int32, y = x_3787 + Int32.ofInt 1 := ⟨_, rfl⟩
                    have h_v_3816 : 1 ≤ (v_3816 : Int32).toInt ∧ (v_3816 : Int32).toInt ≤ 6 := by rw [v_3816_e]; exact tr_add h_3792 (⟨by decide, by decide⟩ : 1 ≤ (Int32.ofInt 1 : Int32).toInt ∧ (Int32.ofInt 1 : Int32).toInt ≤ 1) (by decide) (by decide) (by decide) (by decide)
                    have q_v_3816 : v_3816.toInt = x_3787.toInt + 1 := by rw [v_3816_e]; exact tr_addE h_3792 (⟨by decide, by decide⟩ : 1 ≤ (Int32.ofInt 1 : Int32).toInt ∧ (Int32.ofInt 1 : Int32).toInt ≤ 1) (by decide) (by decide)
                    refine lv_iinc (v := v_3816) (lv' := [(3, .int v_3816), (2, .int 1), (1, .int x_3672), (0, .ref mm)]) hx hb dX12_named_67 hl (k := 1) rfl v_3816_e.symm (by decide) rfl (fun ls hl => ?_)
                    refine lv_goto (tgt := 16) hx hb dX12_named_70 (by decide) ?_
                    exact ih_3789 v_3816 1 ls (tr_w h_v_3816 (by decide) (by decide)) (⟨by decide, by decide⟩ : 0 ≤ (1 : Int32).toInt ∧ (1 : Int32).toInt ≤ 1) (by omega) (lv_sub hl [0, 1, 2, 3] rfl)
        exact lp_3789 8 0 1 ls (⟨by decide, by decide⟩ : 0 ≤ (0 : Int32).toInt ∧ (0 : Int32).toInt ≤ 7) (⟨by decide, by decide⟩ : 0 ≤ (1 : Int32).toInt ∧ (1 : Int32).toInt ≤ 1) (by decide) (lv_sub hl [0, 1, 2, 3] rfl)
  exact lp_3673 13 0 ls (⟨by decide, by decide⟩ : 0 ≤ (0 : Int32).toInt ∧ (0 : Int32).toInt ≤ 12) (by decide) (lv_sub hl [0, 1] rfl)
set_option maxHeartbeats 4000000 in
set_option maxRecDepth 100000 in
theorem c_X12_manyOf (l : Launch) (D : va_G) (g : Nat → ClassId) (mm : Nat) (rw : Nat) (p1 : Int32) (i_thrown : Int32) (m_s : Nat) (m_spare : Nat) (m_kept : Nat) (m_undone : Nat) (m_triedWay : Nat) (m_isKept : Nat) (i_undoMany : Int32) (m_tape : Nat) (i_length : Int32) (i_size : Int32) (i_p : Int32) (i_at : Int32) (i_token : Int32) (i_number : Int32) (i_letterMany : Int32) (i_fault : Int32) (i_faultAt : Int32) (m_letters : Nat) (i_isKnown : Int32) (m_choice : Nat) (m_row : Nat) (m_up : Nat) (m_low : Nat) (m_m : Nat) (m_bestUp : Nat) (m_bestLow : Nat) (m_replyUp : Nat) (m_replyLow : Nat) (m_worthUp : Nat) (m_worthLow : Nat) (m_bestWay : Nat) (i_seed : Int32) (m_told : Nat) (i_toldMany : Int32) (rf : Nat → Int32) (h_i_undoMany : 0 ≤ (i_undoMany : Int32).toInt ∧ (i_undoMany : Int32).toInt ≤ 8) (h_i_length : 0 ≤ (i_length : Int32).toInt ∧ (i_length : Int32).toInt ≤ 440) (h_i_size : 0 ≤ (i_size : Int32).toInt ∧ (i_size : Int32).toInt ≤ 440) (h_i_p : 0 ≤ (i_p : Int32).toInt ∧ (i_p : Int32).toInt ≤ 440) (h_i_at : 0 ≤ (i_at : Int32).toInt ∧ (i_at : Int32).toInt ≤ 440) (h_i_token : 0 ≤ (i_token : Int32).toInt ∧ (i_token : Int32).toInt ≤ 4) (h_i_number : 0 ≤ (i_number : Int32).toInt ∧ (i_number : Int32).toInt ≤ 814) (h_i_letterMany : (-440) ≤ (i_letterMany : Int32).toInt ∧ (i_letterMany : Int32).toInt ≤ 440) (h_i_isKnown : 0 ≤ (i_isKnown : Int32).toInt ∧ (i_isKnown : Int32).toInt ≤ 1) (h_i_toldMany : 0 ≤ (i_toldMany : Int32).toInt ∧ (i_toldMany : Int32).toInt ≤ 900) (hG : GR rf) : Met l yX12_manyOf (.code yX12_manyOf cX12_manyOf 5 (some .int) :: wsL_law) ({ frames := 0, cells := 0, slots := 0, locals := 0 }) (va_Pc [.ref mm, .ref rw, .int p1] (fun U => va_P D vwCl [(mm, .inr (12, (.int i_thrown :: .ref m_s :: .ref m_spare :: .ref m_kept :: .ref m_undone :: .ref m_triedWay :: .ref m_isKept :: .int i_undoMany :: .ref m_tape :: .int i_length :: .int i_size :: .int i_p :: .int i_at :: .int i_token :: .int i_number :: .int i_letterMany :: .int i_fault :: .int i_faultAt :: .ref m_letters :: .int i_isKnown :: .ref m_choice :: .ref m_row :: .ref m_up :: .ref m_low :: .ref m_m :: .ref m_bestUp :: .ref m_bestLow :: .ref m_replyUp :: .ref m_replyLow :: .ref m_worthUp :: .ref m_worthLow :: .ref m_bestWay :: .int i_seed :: .ref m_told :: .int i_toldMany :: []))), (rw, .inl (g 0, 193, .inl rf))] U.heap ∧ va_K D vwCl (TY g) U)) (vp_Si (fun r => (0 ≤ (r : Int32).toInt ∧ (r : Int32).toInt ≤ 12) ∧ ((r : Int32).toInt = gc rf (p1 : Int32).toInt (rf 0).toInt.toNat))) 0 0 (fun _ => False) := by
  refine Met.ofW (cc := cX12_manyOf) (maxL := 5) (ret := (some .int)) (by decide) rfl ?_
  intro p e s m args below meth c s₁ B hml hv
  obtain ⟨ha, hP, hK⟩ := hv
  have hx := B.exec
  have hb := B.bytes
  have hr := B.returns
  have hts0 := atoms_spec (ws := (.code yX12_manyOf cX12_manyOf 5 (some .int) :: wsL_law)) B.pre
  have hts : ∀ w ∈ wsL_law, w.before args s = true := fun w h => hts0 w (List.mem_cons_of_mem _ h)
  have hown : s.vm.findClass RX12 = some m.cls := findClass_of_methodNamed B.named
  have hlocks := B.notSynchronized
  have hP : va_P D vwCl [(mm, .inr (12, (.int i_thrown :: .ref m_s :: .ref m_spare :: .ref m_kept :: .ref m_undone :: .ref m_triedWay :: .ref m_isKept :: .int i_undoMany :: .ref m_tape :: .int i_length :: .int i_size :: .int i_p :: .int i_at :: .int i_token :: .int i_number :: .int i_letterMany :: .int i_fault :: .int i_faultAt :: .ref m_letters :: .int i_isKnown :: .ref m_choice :: .ref m_row :: .ref m_up :: .ref m_low :: .ref m_m :: .ref m_bestUp :: .ref m_bestLow :: .ref m_replyUp :: .ref m_replyLow :: .ref m_worthUp :: .ref m_worthLow :: .ref m_bestWay :: .int i_seed :: .ref m_told :: .int i_toldMany :: []))), (rw, .inl (g 0, 193, .inl rf))] s.heap := hP
  refine W.eq (g2 := entryFrame m ([.ref mm, .ref rw, .int p1] : List Value).toArray 5) (by rw [ha]) ?_
  have hl := lv_entry ([.ref mm, .ref rw, .int p1]) (n := 5) (Nat.le_of_ble_eq_true rfl)
  rw [lg_entry_eq]
  generalize (lg_sl ([.ref mm, .ref rw, .int p1]) ++ List.replicate (5 - (lg_sl ([.ref mm, .ref rw, .int p1])).length) Slot.unset).toArray = ls at hl ⊢
  have hl : lv_has ls 5 [(0, .ref mm), (1, .ref rw), (2, .int p1)] := hl
  refine lv_iconst (v := 0) hx hb dX12_manyOf_0 (by decide) ?_
  refine lv_istore_n (lv' := [(3, .int 0), (0, .ref mm), (1, .ref rw), (2, .int p1)]) hx hb dX12_manyOf_1 rfl hl (by decide) rfl (fun ls hl => ?_)
  refine lv_iconst (v := 0) hx hb dX12_manyOf_2 (by decide) ?_
  refine lv_istore (lv' := [(4, .int 0), (3, .int 0), (0, .ref mm), (1, .ref rw), (2, .int p1)]) hx hb dX12_manyOf_3 hl (by decide) rfl (fun ls hl => ?_)
  have lp_3832 : ∀ (n_3832 : Nat) (x_3830 : Int32) (x_3831 : Int32) (ls : Array Slot), (0 ≤ (x_3830 : Int32).toInt ∧ (x_3830 : Int32).toInt ≤ 12) → (0 ≤ (x_3831 : Int32).toInt ∧ (x_3831 : Int32).toInt ≤ 12) → (x_3830.toInt = gc rf (p1 : Int32).toInt x_3831.toInt.toNat) → (x_3830.toInt ≤ x_3831.toInt ∧ x_3831.toInt ≤ (rf 0).toInt) → (12 - x_3831.toInt < (n_3832 : Int)) → lv_has ls 5 [(4, .int x_3831), (3, .int x_3830), (0, .ref mm), (1, .ref rw), (2, .int p1)] → W p l e (headSpec (.code yX12_manyOf cX12_manyOf 5 (some .int) :: wsL_law) ({ frames := 0, cells := 0, slots := 0, locals := 0 })).room s m args below meth c s.heap [] 0 0 (MQ below (vp_Si (fun r => (0 ≤ (r : Int32).toInt ∧ (r : Int32).toInt ≤ 12) ∧ ((r : Int32).toInt = gc rf (p1 : Int32).toInt (rf 0).toInt.toNat))) args s 0 0 (fun _ => False)) (F0 m 5 ls []) := by
    intro n_3832
    induction n_3832 with
    | zero =>
      intro x_3830 x_3831 ls h_x_3830 h_x_3831 hr3832_0 hr3832_1 hm_3832 hl
      exfalso; omega
    | succ n_3832 ih_3832 =>
      intro x_3830 x_3831 ls h_x_3830 h_x_3831 hr3832_0 hr3832_1 hm_3832 hl
      refine lv_iload hx hb dX12_manyOf_5 (lv_at hl 0 rfl) ?_
      refine lv_aload_n hx hb dX12_manyOf_7 rfl (lv_at hl 3 rfl) ?_
      refine lv_iconst (v := 0) hx hb dX12_manyOf_8 (by decide) ?_
      refine va_iald hx hb hK hP 1 0 rfl rfl (tz_in (by decide +kernel)) dX12_manyOf_9 ?_
      refine lv_topi (fun v_3833 v_3833_e => ?_)
      have h_v_3833 : 0 ≤ (v_3833 : Int32).toInt ∧ (v_3833 : Int32).toInt ≤ 12 := by rw [v_3833_e]; exact gr_nodes hG (⟨by decide, by decide⟩ : 0 ≤ (0 : Int32).toInt ∧ (0 : Int32).toInt ≤ 0)
      have g_v_3833 : v_3833 = rf (0) := v_3833_e.trans (congrArg rf rfl)
      have gi_v_3833 := congrArg Int32.toInt g_v_3833
      refine lv_icmp_ge (tgt := 37) hx hb dX12_manyOf_10 (by decide) (fun c_3834 => ?_) (fun c_3834 => ?_)
      · skip
        have c_3834_i := Int32.le_iff_toInt_le.mp c_3834
        refine lv_iload_n hx hb dX12_manyOf_37 rfl (lv_at hl 1 rfl) ?_
        exact W.iret (v := x_3830) hx hb hr (fun t ht hW => ⟨x_3830, rfl, ⟨(tr_w h_x_3830 (by decide) (by decide)), (hr3832_0.trans (congrArg (gc rf (p1 : Int32).toInt) (by have q8 := congrArg Int32.toInt g_v_3833; omega)))⟩, ht⟩) (fun _ h => nomatch h) dX12_manyOf_38
      · skip
        have c_3834_i := Int32.lt_iff_toInt_lt.mp (Int32.not_le.mp c_3834)
        have c_3834_i := Int32.lt_iff_toInt_lt.mp (Int32.not_le.mp c_3834)
        have h_3835 : 0 ≤ (x_3831 : Int32).toInt ∧ (x_3831 : Int32).toInt ≤ 11 := by have q1 := h_x_3831; have q2 := h_v_3833; omega
        have h_3836 : 1 ≤ (v_3833 : Int32).toInt ∧ (v_3833 : Int32).toInt ≤ 12 := by have q1 := h_x_3831; have q2 := h_v_3833; omega
        refine lv_iload_n hx hb dX12_manyOf_13 rfl (lv_at hl 1 rfl) ?_
        refine lv_aload_n hx hb dX12_manyOf_14 rfl (lv_at hl 3 rfl) ?_
        refine lv_iconst (v := 1) hx hb dX12_manyOf_15 (by decide) ?_
        refine lv_iload hx hb dX12_manyOf_16 (lv_at hl 0 rfl) ?_
        refine lv_iadd hx hb dX12_manyOf_18 ?_
        refine lv_topi (fun v_3837 v_3837_e => ?_)
        have h_v_3837 : 1 ≤ (v_3837 : Int32).toInt ∧ (v_3837 : Int32).toInt ≤ 12 := by rw [v_3837_e]; exact tr_add (⟨by decide, by decide⟩ : 1 ≤ (1 : Int32).toInt ∧ (1 : Int32).toInt ≤ 1) h_3835 (by decide) (by decide) (by decide) (by decide)
        have q_v_3837 : v_3837.toInt = 1 + x_3831.toInt := by rw [v_3837_e]; exact (tr_addX (⟨by decide, by decide⟩ : 1 ≤ (1 : Int32).toInt ∧ (1 : Int32).toInt ≤ 1) h_3835 (by decide) (by decide)).trans (by rw [tk_1])
        refine va_iald hx hb hK hP 1 0 rfl rfl (tr_in h_v_3837 (by decide) (by decide)) dX12_manyOf_19 ?_
        refine lv_topi (fun v_3838 v_3838_e => ?_)
        have h_v_3838 : 0 ≤ (v_3838 : Int32).toInt ∧ (v_3838 : Int32).toInt ≤ 3 := by rw [v_3838_e]; exact gr_kind hG (tr_w h_v_3837 (by decide) (by decide))
        have g_v_3838 : v_3838 = rf (1 + x_3831.toInt.toNat) := v_3838_e.trans (congrArg rf (by show Int.toNat _ = _; omega))
        have gi_v_3838 := congrArg Int32.toInt g_v_3838
        refine lv_iload_n hx hb dX12_manyOf_20 rfl (lv_at hl 4 rfl) ?_
        refine lv_icmp_ne (tgt := 28) hx hb dX12_manyOf_21 (by decide) (fun c_3839 => ?_) (fun c_3839 => ?_)
        · skip
          have c_3839_i := c_3839
          have c_3839_i : ¬ (v_3838 : Int32).toInt = (p1 : Int32).toInt := (fun q => c_3839 (Int32.toInt_inj.mp q))
          refine lv_iconst (v := 0) hx hb dX12_manyOf_28 (by decide) ?_
          refine lv_iadd hx hb dX12_manyOf_29 ?_
          refine lv_topi (fun v_3840 v_3840_e => ?_)
          have h_v_3840 : 0 ≤ (v_3840 : Int32).toInt ∧ (v_3840 : Int32).toInt ≤ 12 := by rw [v_3840_e]; exact tr_add h_x_3830 (⟨by decide, by decide⟩ : 0 ≤ (0 : Int32).toInt ∧ (0 : Int32).toInt ≤ 0) (by decide) (by decide) (by decide) (by decide)
          have q_v_3840 : v_3840.toInt = x_3830.toInt + 0 := by rw [v_3840_e]; exact tr_addE h_x_3830 (⟨by decide, by decide⟩ : 0 ≤ (0 : Int32).toInt ∧ (0 : Int32).toInt ≤ 0) (by decide) (by decide)
          refine lv_istore_n (lv' := [(3, .int v_3840), (4, .int x_3831), (0, .ref mm), (1, .ref rw), (2, .int p1)]) hx hb dX12_manyOf_30 rfl hl (by decide) rfl (fun ls hl => ?_)
          obtain ⟨v_3841, v_3841_e⟩ : ∃ y : Int32, y = x_3831 + Int32.ofInt 1 := ⟨_, rfl⟩
          have h_v_3841 : 1 ≤ (v_3841 : Int32).toInt ∧ (v_3841 : Int32).toInt ≤ 12 := by rw [v_3841_e]; exact tr_add h_3835 (⟨by decide, by decide⟩ : 1 ≤ (Int32.ofInt 1 : Int32).toInt ∧ (Int32.ofInt 1 : Int32).toInt ≤ 1) (by decide) (by decide) (by decide) (by decide)
          have q_v_3841 : v_3841.toInt = x_3831.toInt + 1 := by rw [v_3841_e]; exact tr_addE h_3835 (⟨by decide, by decide⟩ : 1 ≤ (Int32.ofInt 1 : Int32).toInt ∧ (Int32.ofInt 1 : Int32).toInt ≤ 1) (by decide) (by decide)
          refine lv_iinc (v := v_3841) (lv' := [(4, .int v_3841), (3, .int v_3840), (0, .ref mm), (1, .ref rw), (2, .int p1)]) hx hb dX12_manyOf_31 hl (k := 1) rfl v_3841_e.symm (by decide) rfl (fun ls hl => ?_)
          refine lv_goto (tgt := 5) hx hb dX12_manyOf_34 (by decide) ?_
          exact ih_3832 v_3840 v_3841 ls (tr_w h_v_3840 (by decide) (by decide)) (tr_w h_v_3841 (by decide) (by decide)) ((gc_next (d' := 0) (t := v_3840.toInt) (j := v_3841.toInt.toNat) hr3832_0 g_v_3838 (by omega)).2 (by omega) (by omega)) (by have z_0 := tk_0; have q9 := hG.1; have q8 := congrArg Int32.toInt g_v_3833; omega) (by omega) (lv_sub hl [0, 1, 2, 3, 4] rfl)
        · skip
          have c_3839_i := c_3839
          have c_3839_i : (v_3838 : Int32).toInt = (p1 : Int32).toInt := congrArg Int32.toInt c_3839
          refine lv_iconst (v := 1) hx hb dX12_manyOf_24 (by decide) ?_
          refine lv_goto (tgt := 29) hx hb dX12_manyOf_25 (by decide) ?_
          refine lv_iadd hx hb dX12_manyOf_29 ?_
          refine lv_topi (fun v_3842 v_3842_e => ?_)
          have h_v_3842 : 1 ≤ (v_3842 : Int32).toInt ∧ (v_3842 : Int32).toInt ≤ 13 := by rw [v_3842_e]; exact tr_add h_x_3830 (⟨by decide, by decide⟩ : 1 ≤ (1 : Int32).toInt ∧ (1 : Int32).toInt ≤ 1) (by decide) (by decide) (by decide) (by decide)
          have q_v_3842 : v_3842.toInt = x_3830.toInt + 1 := by rw [v_3842_e]; exact tr_addE h_x_3830 (⟨by decide, by decide⟩ : 1 ≤ (1 : Int32).toInt ∧ (1 : Int32).toInt ≤ 1) (by decide) (by decide)
          refine lv_istore_n (lv' := [(3, .int v_3842), (4, .int x_3831), (0, .ref mm), (1, .ref rw), (2, .int p1)]) hx hb dX12_manyOf_30 rfl hl (by decide) rfl (fun ls hl => ?_)
          obtain ⟨v_3843, v_3843_e⟩ : ∃ y : Int32, y = x_3831 + Int32.ofInt 1 := ⟨_, rfl⟩
          have h_v_3843 : 1 ≤ (v_3843 : Int32).toInt ∧ (v_3843 : Int32).toInt ≤ 12 := by rw [v_3843_e]; exact tr_add h_3835 (⟨by decide, by decide⟩ : 1 ≤ (Int32.ofInt 1 : Int32).toInt ∧ (Int32.ofInt 1 : Int32).toInt ≤ 1) (by decide) (by decide) (by decide) (by decide)
          have q_v_3843 : v_3843.toInt = x_3831.toInt + 1 := by rw [v_3843_e]; exact tr_addE h_3835 (⟨by decide, by decide⟩ : 1 ≤ (Int32.ofInt 1 : Int32).toInt ∧ (Int32.ofInt 1 : Int32).toInt ≤ 1) (by decide) (by decide)
          refine lv_iinc (v := v_3843) (lv' := [(4, .int v_3843), (3, .int v_3842), (0, .ref mm), (1, .ref rw), (2, .int p1)]) hx hb dX12_manyOf_31 hl (k := 1) rfl v_3843_e.symm (by decide) rfl (fun ls hl => ?_)
          refine lv_goto (tgt := 5) hx hb dX12_manyOf_34 (by decide) ?_
          exact ih_3832 v_3842 v_3843 ls (by omega) (tr_w h_v_3843 (by decide) (by decide)) ((gc_next (d' := 0) (t := v_3842.toInt) (j := v_3843.toInt.toNat) hr3832_0 g_v_3838 (by omega)).1 (by omega) (by omega)) (by have z_0 := tk_0; have q9 := hG.1; have q8 := congrArg Int32.toInt g_v_3833; omega) (by omega) (lv_sub hl [0, 1, 2, 3, 4] rfl)
  exact lp_3832 13 0 0 ls (⟨by decide, by decide⟩ : 0 ≤ (0 : Int32).toInt ∧ (0 : Int32).toInt ≤ 12) (⟨by decide, by decide⟩ : 0 ≤ (0 : Int32).toInt ∧ (0 : Int32).toInt ≤ 12) rfl (by have z_0 := tk_0; have q9 := hG.1; omega) (by decide) (lv_sub hl [0, 1, 2, 3, 4] rfl)
set_option maxHeartbeats 4000000 in
set_option maxRecDepth 100000 in
theorem c_X12_weights (l : Launch) (D : va_G) (g : Nat → ClassId) (rw : Nat) (p1 : Int32) (rf : Nat → Int32) (h_p1 : 0 ≤ (p1 : Int32).toInt ∧ (p1 : Int32).toInt ≤ 11) (hG : GR rf) : Met l yX12_weights (.code yX12_weights cX12_weights 4 (some .int) :: wsL_law) ({ frames := 0, cells := 0, slots := 0, locals := 0 }) (va_Pc [.ref rw, .int p1] (fun U => va_P D vwCl [(rw, .inl (g 0, 193, .inl rf))] U.heap ∧ va_K D vwCl (TY g) U)) (vp_Si (fun r => (0 ≤ (r : Int32).toInt ∧ (r : Int32).toInt ≤ 9) ∧ ((r : Int32).toInt = gw rf (p1 : Int32).toInt.toNat (rf (25 + (p1 : Int32).toInt.toNat)).toInt.toNat))) 0 0 (fun _ => False) := by
  refine Met.ofW (cc := cX12_weights) (maxL := 4) (ret := (some .int)) (by decide) rfl ?_
  intro p e s m args below meth c s₁ B hml hv
  obtain ⟨ha, hP, hK⟩ := hv
  have hx := B.exec
  have hb := B.bytes
  have hr := B.returns
  have hts0 := atoms_spec (ws := (.code yX12_weights cX12_weights 4 (some .int) :: wsL_law)) B.pre
  have hts : ∀ w ∈ wsL_law, w.before args s = true := fun w h => hts0 w (List.mem_cons_of_mem _ h)
  have hown : s.vm.findClass RX12 = some m.cls := findClass_of_methodNamed B.named
  have hlocks := B.notSynchronized
  have hP : va_P D vwCl [(rw, .inl (g 0, 193, .inl rf))] s.heap := hP
  refine W.eq (g2 := entryFrame m ([.ref rw, .int p1] : List Value).toArray 4) (by rw [ha]) ?_
  have hl := lv_entry ([.ref rw, .int p1]) (n := 4) (Nat.le_of_ble_eq_true rfl)
  rw [lg_entry_eq]
  generalize (lg_sl ([.ref rw, .int p1]) ++ List.replicate (4 - (lg_sl ([.ref rw, .int p1])).length) Slot.unset).toArray = ls at hl ⊢
  have hl : lv_has ls 4 [(0, .ref rw), (1, .int p1)] := hl
  refine lv_iconst (v := 0) hx hb dX12_weights_0 (by decide) ?_
  refine lv_istore_n (lv' := [(2, .int 0), (0, .ref rw), (1, .int p1)]) hx hb dX12_weights_1 rfl hl (by decide) rfl (fun ls hl => ?_)
  refine lv_iconst (v := 0) hx hb dX12_weights_2 (by decide) ?_
  refine lv_istore_n (lv' := [(3, .int 0), (2, .int 0), (0, .ref rw), (1, .int p1)]) hx hb dX12_weights_3 rfl hl (by decide) rfl (fun ls hl => ?_)
  have lp_3859 : ∀ (n_3859 : Nat) (x_3857 : Int32) (x_3858 : Int32) (ls : Array Slot), (0 ≤ (x_3857 : Int32).toInt ∧ (x_3857 : Int32).toInt ≤ 9) → (0 ≤ (x_3858 : Int32).toInt ∧ (x_3858 : Int32).toInt ≤ 3) → (x_3857.toInt = gw rf (p1 : Int32).toInt.toNat x_3858.toInt.toNat) → (x_3857.toInt ≤ 3 * x_3858.toInt ∧ x_3858.toInt ≤ (rf (25 + (p1 : Int32).toInt.toNat)).toInt) → (3 - x_3858.toInt < (n_3859 : Int)) → lv_has ls 4 [(3, .int x_3858), (2, .int x_3857), (0, .ref rw), (1, .int p1)] → W p l e (headSpec (.code yX12_weights cX12_weights 4 (some .int) :: wsL_law) ({ frames := 0, cells := 0, slots := 0, locals := 0 })).room s m args below meth c s.heap [] 0 0 (MQ below (vp_Si (fun r => (0 ≤ (r : Int32).toInt ∧ (r : Int32).toInt ≤ 9) ∧ ((r : Int32).toInt = gw rf (p1 : Int32).toInt.toNat (rf (25 + (p1 : Int32).toInt.toNat)).toInt.toNat))) args s 0 0 (fun _ => False)) (F0 m 4 ls []) := by
    intro n_3859
    induction n_3859 with
    | zero =>
      intro x_3857 x_3858 ls h_x_3857 h_x_3858 hr3859_0 hr3859_1 hm_3859 hl
      exfalso; omega
    | succ n_3859 ih_3859 =>
      intro x_3857 x_3858 ls h_x_3857 h_x_3858 hr3859_0 hr3859_1 hm_3859 hl
      refine lv_iload_n hx hb dX12_weights_4 rfl (lv_at hl 0 rfl) ?_
      refine lv_aload_n hx hb dX12_weights_5 rfl (lv_at hl 2 rfl) ?_
      refine lv_bipush (v := 25) hx hb dX12_weights_6 (by decide) ?_
      refine lv_iload_n hx hb dX12_weights_8 rfl (lv_at hl 3 rfl) ?_
      refine lv_iadd hx hb dX12_weights_9 ?_
      refine lv_topi (fun v_3860 v_3860_e => ?_)
      have h_v_3860 : 25 ≤ (v_3860 : Int32).toInt ∧ (v_3860 : Int32).toInt ≤ 36 := by rw [v_3860_e]; exact tr_add (⟨by decide, by decide⟩ : 25 ≤ (25 : Int32).toInt ∧ (25 : Int32).toInt ≤ 25) h_p1 (by decide) (by decide) (by decide) (by decide)
      have q_v_3860 : v_3860.toInt = 25 + p1.toInt := by rw [v_3860_e]; exact (tr_addX (⟨by decide, by decide⟩ : 25 ≤ (25 : Int32).toInt ∧ (25 : Int32).toInt ≤ 25) h_p1 (by decide) (by decide)).trans (by rw [tk_25])
      refine va_iald hx hb hK hP 0 0 rfl rfl (tr_in h_v_3860 (by decide) (by decide)) dX12_weights_10 ?_
      refine lv_topi (fun v_3861 v_3861_e => ?_)
      have h_v_3861 : 0 ≤ (v_3861 : Int32).toInt ∧ (v_3861 : Int32).toInt ≤ 3 := by rw [v_3861_e]; exact gr_ways hG (tr_w h_v_3860 (by decide) (by decide))
      have g_v_3861 : v_3861 = rf (25 + p1.toInt.toNat) := v_3861_e.trans (congrArg rf (by show Int.toNat _ = _; omega))
      have gi_v_3861 := congrArg Int32.toInt g_v_3861
      refine lv_icmp_ge (tgt := 33) hx hb dX12_weights_11 (by decide) (fun c_3862 => ?_) (fun c_3862 => ?_)
      · skip
        have c_3862_i := Int32.le_iff_toInt_le.mp c_3862
        refine lv_iload_n hx hb dX12_weights_33 rfl (lv_at hl 1 rfl) ?_
        exact W.iret (v := x_3857) hx hb hr (fun t ht hW => ⟨x_3857, rfl, ⟨(tr_w h_x_3857 (by decide) (by decide)), (hr3859_0.trans (congrArg (gw rf (p1 : Int32).toInt.toNat) (by have q8 := congrArg Int32.toInt g_v_3861; omega)))⟩, ht⟩) (fun _ h => nomatch h) dX12_weights_34
      · skip
        have c_3862_i := Int32.lt_iff_toInt_lt.mp (Int32.not_le.mp c_3862)
        have c_3862_i := Int32.lt_iff_toInt_lt.mp (Int32.not_le.mp c_3862)
        have h_3863 : 0 ≤ (x_3858 : Int32).toInt ∧ (x_3858 : Int32).toInt ≤ 2 := by have q1 := h_x_3858; have q2 := h_v_3861; omega
        have h_3864 : 1 ≤ (v_3861 : Int32).toInt ∧ (v_3861 : Int32).toInt ≤ 3 := by have q1 := h_x_3858; have q2 := h_v_3861; omega
        refine lv_iload_n hx hb dX12_weights_14 rfl (lv_at hl 1 rfl) ?_
        refine lv_aload_n hx hb dX12_weights_15 rfl (lv_at hl 2 rfl) ?_
        refine lv_bipush (v := 73) hx hb dX12_weights_16 (by decide) ?_
        refine lv_iconst (v := 3) hx hb dX12_weights_18 (by decide) ?_
        refine lv_iload_n hx hb dX12_weights_19 rfl (lv_at hl 3 rfl) ?_
        refine lv_imul hx hb dX12_weights_20 ?_
        refine lv_topi (fun v_3865 v_3865_e => ?_)
        have h_v_3865 : 0 ≤ (v_3865 : Int32).toInt ∧ (v_3865 : Int32).toInt ≤ 33 := by rw [v_3865_e]; exact tr_mul (⟨by decide, by decide⟩ : 3 ≤ (3 : Int32).toInt ∧ (3 : Int32).toInt ≤ 3) h_p1 (by decide) (by decide) (by decide) (by decide)
        have q_v_3865 : v_3865.toInt = 3 * p1.toInt := by rw [v_3865_e]; exact (tr_mulX (⟨by decide, by decide⟩ : 3 ≤ (3 : Int32).toInt ∧ (3 : Int32).toInt ≤ 3) h_p1 (by decide) (by decide)).trans (by rw [tk_3])
        refine lv_iadd hx hb dX12_weights_21 ?_
        refine lv_topi (fun v_3866 v_3866_e => ?_)
        have h_v_3866 : 73 ≤ (v_3866 : Int32).toInt ∧ (v_3866 : Int32).toInt ≤ 106 := by rw [v_3866_e]; exact tr_add (⟨by decide, by decide⟩ : 73 ≤ (73 : Int32).toInt ∧ (73 : Int32).toInt ≤ 73) h_v_3865 (by decide) (by decide) (by decide) (by decide)
        have q_v_3866 : v_3866.toInt = 73 + v_3865.toInt := by rw [v_3866_e]; exact (tr_addX (⟨by decide, by decide⟩ : 73 ≤ (73 : Int32).toInt ∧ (73 : Int32).toInt ≤ 73) h_v_3865 (by decide) (by decide)).trans (by rw [tk_73])
        refine lv_iload_n hx hb dX12_weights_22 rfl (lv_at hl 0 rfl) ?_
        refine lv_iadd hx hb dX12_weights_23 ?_
        refine lv_topi (fun v_3867 v_3867_e => ?_)
        have h_v_3867 : 73 ≤ (v_3867 : Int32).toInt ∧ (v_3867 : Int32).toInt ≤ 108 := by rw [v_3867_e]; exact tr_add h_v_3866 h_3863 (by decide) (by decide) (by decide) (by decide)
        have q_v_3867 : v_3867.toInt = v_3866.toInt + x_3858.toInt := by rw [v_3867_e]; exact tr_addX h_v_3866 h_3863 (by decide) (by decide)
        refine va_iald hx hb hK hP 0 0 rfl rfl (tr_in h_v_3867 (by decide) (by decide)) dX12_weights_24 ?_
        refine lv_topi (fun v_3868 v_3868_e => ?_)
        have h_v_3868 : 0 ≤ (v_3868 : Int32).toInt ∧ (v_3868 : Int32).toInt ≤ 3 := by rw [v_3868_e]; exact gr_heavy hG (tr_w h_v_3867 (by decide) (by decide))
        have g_v_3868 : v_3868 = rf (73 + 3 * p1.toInt.toNat + x_3858.toInt.toNat) := v_3868_e.trans (congrArg rf (by show Int.toNat _ = _; omega))
        have gi_v_3868 := congrArg Int32.toInt g_v_3868
        refine lv_iadd hx hb dX12_weights_25 ?_
        refine lv_topi (fun v_3869 v_3869_e => ?_)
        have h_v_3869 : 0 ≤ (v_3869 : Int32).toInt ∧ (v_3869 : Int32).toInt ≤ 12 := by rw [v_3869_e]; exact tr_add h_x_3857 h_v_3868 (by decide) (by decide) (by decide) (by decide)
        have q_v_3869 : v_3869.toInt = x_3857.toInt + v_3868.toInt := by rw [v_3869_e]; exact tr_addX h_x_3857 h_v_3868 (by decide) (by decide)
        refine lv_istore_n (lv' := [(2, .int v_3869), (3, .int x_3858), (0, .ref rw), (1, .int p1)]) hx hb dX12_weights_26 rfl hl (by decide) rfl (fun ls hl => ?_)
        obtain ⟨v_3870, v_3870_e⟩ : ∃ y : Int32, y = x_3858 + Int32.ofInt 1 := ⟨_, rfl⟩
        have h_v_3870 : 1 ≤ (v_3870 : Int32).toInt ∧ (v_3870 : Int32).toInt ≤ 3 := by rw [v_3870_e]; exact tr_add h_3863 (⟨by decide, by decide⟩ : 1 ≤ (Int32.ofInt 1 : Int32).toInt ∧ (Int32.ofInt 1 : Int32).toInt ≤ 1) (by decide) (by decide) (by decide) (by decide)
        have q_v_3870 : v_3870.toInt = x_3858.toInt + 1 := by rw [v_3870_e]; exact tr_addE h_3863 (⟨by decide, by decide⟩ : 1 ≤ (Int32.ofInt 1 : Int32).toInt ∧ (Int32.ofInt 1 : Int32).toInt ≤ 1) (by decide) (by decide)
        refine lv_iinc (v := v_3870) (lv' := [(3, .int v_3870), (2, .int v_3869), (0, .ref rw), (1, .int p1)]) hx hb dX12_weights_27 hl (k := 1) rfl v_3870_e.symm (by decide) rfl (fun ls hl => ?_)
        refine lv_goto (tgt := 4) hx hb dX12_weights_30 (by decide) ?_
        exact ih_3859 v_3869 v_3870 ls (by omega) (tr_w h_v_3870 (by decide) (by decide)) (gw_next (t := v_3869.toInt) (j := v_3870.toInt.toNat) hr3859_0 g_v_3868 (by omega) (by omega)) (by have z_0 := tk_0; have q9 := (hG.2.1 (p1 : Int32).toInt.toNat (by omega)).2.2.1; have q8 := congrArg Int32.toInt g_v_3861; omega) (by omega) (lv_sub hl [0, 1, 2, 3] rfl)
  exact lp_3859 4 0 0 ls (⟨by decide, by decide⟩ : 0 ≤ (0 : Int32).toInt ∧ (0 : Int32).toInt ≤ 9) (⟨by decide, by decide⟩ : 0 ≤ (0 : Int32).toInt ∧ (0 : Int32).toInt ≤ 3) rfl (by have z_0 := tk_0; have q9 := (hG.2.1 (p1 : Int32).toInt.toNat (by omega)).2.2.1; omega) (by decide) (lv_sub hl [0, 1, 2, 3] rfl)
set_option maxHeartbeats 4000000 in
set_option maxRecDepth 100000 in
theorem c_X12_copies (l : Launch) (D : va_G) (g : Nat → ClassId) (sz : Nat) (fa : Nat) (p1 : Int32) (ta : Nat) (p3 : Int32) (ff : Nat → Int32) (tf : Nat → Int32) (h_p1 : 0 ≤ (p1 : Int32).toInt ∧ (p1 : Int32).toInt ≤ 0) (h_p3 : 0 ≤ (p3 : Int32).toInt ∧ (p3 : Int32).toInt ≤ 0) : Met l yX12_copies (.code yX12_copies cX12_copies 5 none :: wsL_law) ({ frames := 0, cells := 0, slots := 0, locals := 0 }) (va_Pc [.ref fa, .int p1, .ref ta, .int p3] (fun U => U.heap.size = sz ∧ va_P D vwCl [(fa, .inl (g 0, 193, .inl ff)), (ta, .inl (g 0, 193, .inl tf))] U.heap ∧ va_K D vwCl (TY g) U ∧ va_D (fun _ => True) [(fa, .inl (g 0, 193, .inl ff)), (ta, .inl (g 0, 193, .inl tf))])) (va_Qv (fun (_ : Unit) => True) (fun _ t => ∃ otf : Nat → Int32, (otf = va_cpy ff tf (p1 : Int32).toInt.toNat (p3 : Int32).toInt.toNat 193) ∧ va_P D vwCl [(fa, .inl (g 0, 193, .inl ff)), (ta, .inl (g 0, 193, .inl otf))] t.heap ∧ va_D (va_A [(fa, .inl (g 0, 193, .inl ff)), (ta, .inl (g 0, 193, .inl tf))] sz) [(fa, .inl (g 0, 193, .inl ff)), (ta, .inl (g 0, 193, .inl otf))]) (va_A [(fa, .inl (g 0, 193, .inl ff)), (ta, .inl (g 0, 193, .inl tf))] sz)) 0 0 (va_A [(fa, .inl (g 0, 193, .inl ff)), (ta, .inl (g 0, 193, .inl tf))] sz) := by
  refine Met.ofW (cc := cX12_copies) (maxL := 5) (ret := none) (by decide) rfl ?_
  intro p e s m args below meth c s₁ B hml hv
  obtain ⟨ha, hsz, hP, hK, hD0⟩ := hv
  have hx := B.exec
  have hb := B.bytes
  have hr := B.returns
  have hts0 := atoms_spec (ws := (.code yX12_copies cX12_copies 5 none :: wsL_law)) B.pre
  have hts : ∀ w ∈ wsL_law, w.before args s = true := fun w h => hts0 w (List.mem_cons_of_mem _ h)
  have hown : s.vm.findClass RX12 = some m.cls := findClass_of_methodNamed B.named
  have hlocks := B.notSynchronized
  subst hsz
  have hD := hD0.self (sz := s.heap.size)
  generalize hAe : va_A [(fa, .inl (g 0, 193, .inl ff)), (ta, .inl (g 0, 193, .inl tf))] s.heap.size = A at hD ⊢
  have hA : ∀ q : Nat, s.heap.size ≤ q → A q := fun q h => by rw [← hAe]; exact Or.inr h
  have hS : va_S A s.heap s.heap [] := va_S.rf
  have hP : va_P D vwCl [(fa, .inl (g 0, 193, .inl ff)), (ta, .inl (g 0, 193, .inl tf))] s.heap := hP
  refine W.eq (g2 := entryFrame m ([.ref fa, .int p1, .ref ta, .int p3] : List Value).toArray 5) (by rw [ha]) ?_
  have hl := lv_entry ([.ref fa, .int p1, .ref ta, .int p3]) (n := 5) (Nat.le_of_ble_eq_true rfl)
  rw [lg_entry_eq]
  generalize (lg_sl ([.ref fa, .int p1, .ref ta, .int p3]) ++ List.replicate (5 - (lg_sl ([.ref fa, .int p1, .ref ta, .int p3])).length) Slot.unset).toArray = ls at hl ⊢
  have hl : lv_has ls 5 [(0, .ref fa), (1, .int p1), (2, .ref ta), (3, .int p3)] := hl
  refine lv_iconst (v := 0) hx hb dX12_copies_0 (by decide) ?_
  refine lv_istore (lv' := [(4, .int 0), (0, .ref fa), (1, .int p1), (2, .ref ta), (3, .int p3)]) hx hb dX12_copies_1 hl (by decide) rfl (fun ls hl => ?_)
  have lp_3892 : ∀ (n_3892 : Nat) (x_3890 : Int32) (f_3891 : Nat → Int32) (H : Heap) (locs : List Loc) (ls : Array Slot), (0 ≤ (x_3890 : Int32).toInt ∧ (x_3890 : Int32).toInt ≤ 193) → (f_3891 = va_cpy ff tf p1.toInt.toNat p3.toInt.toNat x_3890.toInt.toNat) → (193 - x_3890.toInt < (n_3892 : Int)) → va_P D vwCl [(fa, .inl (g 0, 193, .inl ff)), (ta, .inl (g 0, 193, .inl f_3891))] H → va_D A [(fa, .inl (g 0, 193, .inl ff)), (ta, .inl (g 0, 193, .inl f_3891))] → va_S A s.heap H locs → lv_has ls 5 [(4, .int x_3890), (0, .ref fa), (1, .int p1), (2, .ref ta), (3, .int p3)] → W p l e (headSpec (.code yX12_copies cX12_copies 5 none :: wsL_law) ({ frames := 0, cells := 0, slots := 0, locals := 0 })).room s m args below meth c H locs 0 0 (MQ below (va_Qv (fun (_ : Unit) => True) (fun _ t => ∃ otf : Nat → Int32, (otf = va_cpy ff tf (p1 : Int32).toInt.toNat (p3 : Int32).toInt.toNat 193) ∧ va_P D vwCl [(fa, .inl (g 0, 193, .inl ff)), (ta, .inl (g 0, 193, .inl otf))] t.heap ∧ va_D A [(fa, .inl (g 0, 193, .inl ff)), (ta, .inl (g 0, 193, .inl otf))]) A) args s 0 0 A) (F0 m 3 ls []) := by
    intro n_3892
    induction n_3892 with
    | zero =>
      intro x_3890 f_3891 H locs ls h_x_3890 hr3892_0 hm_3892 hP hD hS hl
      exfalso; omega
    | succ n_3892 ih_3892 =>
      intro x_3890 f_3891 H locs ls h_x_3890 hr3892_0 hm_3892 hP hD hS hl
      refine lv_iload hx hb dX12_copies_3 (lv_at hl 0 rfl) ?_
      refine lv_sipush (v := 193) hx hb dX12_copies_5 (by decide) ?_
      refine lv_icmp_ge (tgt := 29) hx hb dX12_copies_8 (by decide) (fun c_3893 => ?_) (fun c_3893 => ?_)
      · skip
        have kk_193 := tk_193
        have c_3893_i := Int32.le_iff_toInt_le.mp c_3893
        have c_3893_i := Int32.le_iff_toInt_le.mp c_3893
        have h_3894 : 193 ≤ (x_3890 : Int32).toInt ∧ (x_3890 : Int32).toInt ≤ 193 := by have q1 := h_x_3890; have q2 := (⟨by decide, by decide⟩ : 193 ≤ (193 : Int32).toInt ∧ (193 : Int32).toInt ≤ 193); omega
        have hP9 := hP.sub (ws' := [(fa, .inl (g 0, 193, .inl ff)), (ta, .inl (g 0, 193, .inl f_3891))]) [0, 1] rfl
        have hD9 := hD.sub (ws' := [(fa, .inl (g 0, 193, .inl ff)), (ta, .inl (g 0, 193, .inl f_3891))]) [0, 1] (by decide) rfl
        exact W.vret hx hb hr (fun t ht hW => ⟨⟨(), rfl, trivial, f_3891, (hr3892_0.trans (congrArg (va_cpy ff tf p1.toInt.toNat p3.toInt.toNat) (by have z_193 := tk_193; omega))), by rw [ht]; exact hP9, hD9⟩, hS.F ht⟩) hS.2.2 dX12_copies_29
      · skip
        have kk_193 := tk_193
        have c_3893_i := Int32.lt_iff_toInt_lt.mp (Int32.not_le.mp c_3893)
        have c_3893_i := Int32.lt_iff_toInt_lt.mp (Int32.not_le.mp c_3893)
        have h_3895 : 0 ≤ (x_3890 : Int32).toInt ∧ (x_3890 : Int32).toInt ≤ 192 := by have q1 := h_x_3890; have q2 := (⟨by decide, by decide⟩ : 193 ≤ (193 : Int32).toInt ∧ (193 : Int32).toInt ≤ 193); omega
        refine lv_aload_n hx hb dX12_copies_11 rfl (lv_at hl 3 rfl) ?_
        refine lv_iload_n hx hb dX12_copies_12 rfl (lv_at hl 4 rfl) ?_
        refine lv_iload hx hb dX12_copies_13 (lv_at hl 0 rfl) ?_
        refine lv_iadd hx hb dX12_copies_15 ?_
        refine lv_topi (fun v_3896 v_3896_e => ?_)
        have h_v_3896 : 0 ≤ (v_3896 : Int32).toInt ∧ (v_3896 : Int32).toInt ≤ 192 := by rw [v_3896_e]; exact tr_add h_p3 h_3895 (by decide) (by decide) (by decide) (by decide)
        have q_v_3896 : v_3896.toInt = p3.toInt + x_3890.toInt := by rw [v_3896_e]; exact tr_addX h_p3 h_3895 (by decide) (by decide)
        refine lv_aload_n hx hb dX12_copies_16 rfl (lv_at hl 1 rfl) ?_
        refine lv_iload_n hx hb dX12_copies_17 rfl (lv_at hl 2 rfl) ?_
        refine lv_iload hx hb dX12_copies_18 (lv_at hl 0 rfl) ?_
        refine lv_iadd hx hb dX12_copies_20 ?_
        refine lv_topi (fun v_3897 v_3897_e => ?_)
        have h_v_3897 : 0 ≤ (v_3897 : Int32).toInt ∧ (v_3897 : Int32).toInt ≤ 192 := by rw [v_3897_e]; exact tr_add h_p1 h_3895 (by decide) (by decide) (by decide) (by decide)
        have q_v_3897 : v_3897.toInt = p1.toInt + x_3890.toInt := by rw [v_3897_e]; exact tr_addX h_p1 h_3895 (by decide) (by decide)
        refine va_iald hx hb hK hP 0 0 rfl rfl (tr_in h_v_3897 (by decide) (by decide)) dX12_copies_21 ?_
        refine lv_topi (fun v_3898 v_3898_e => ?_)
        have g_v_3898 : v_3898 = ff (p1.toInt.toNat + x_3890.toInt.toNat) := v_3898_e.trans (congrArg ff (by show Int.toNat _ = _; omega))
        have gi_v_3898 := congrArg Int32.toInt g_v_3898
        refine va_iast hx hb hK hP hD hS 1 0 rfl rfl (tr_in h_v_3896 (by decide) (by decide)) dX12_copies_22 (fun H locs hP hD hS => ?_)
        obtain ⟨f_3899, f_3899_e, hP, hD⟩ : ∃ FX : Nat → Int32, FX = (upd f_3891 (v_3896 : Int32).toNatClampNeg v_3898) ∧ va_P D vwCl [(fa, .inl (g 0, 193, .inl ff)), (ta, .inl (g 0, 193, .inl FX))] H ∧ va_D A [(fa, .inl (g 0, 193, .inl ff)), (ta, .inl (g 0, 193, .inl FX))] := ⟨_, rfl, hP, hD⟩
        have hP : va_P D vwCl [(fa, .inl (g 0, 193, .inl ff)), (ta, .inl (g 0, 193, .inl f_3899))] H := hP
        have hD : va_D A [(fa, .inl (g 0, 193, .inl ff)), (ta, .inl (g 0, 193, .inl f_3899))] := hD
        obtain ⟨v_3900, v_3900_e⟩ : ∃ y : Int32, y = x_3890 + Int32.ofInt 1 := ⟨_, rfl⟩
        have h_v_3900 : 1 ≤ (v_3900 : Int32).toInt ∧ (v_3900 : Int32).toInt ≤ 193 := by rw [v_3900_e]; exact tr_add h_3895 (⟨by decide, by decide⟩ : 1 ≤ (Int32.ofInt 1 : Int32).toInt ∧ (Int32.ofInt 1 : Int32).toInt ≤ 1) (by decide) (by decide) (by decide) (by decide)
        have q_v_3900 : v_3900.toInt = x_3890.toInt + 1 := by rw [v_3900_e]; exact tr_addE h_3895 (⟨by decide, by decide⟩ : 1 ≤ (Int32.ofInt 1 : Int32).toInt ∧ (Int32.ofInt 1 : Int32).toInt ≤ 1) (by decide) (by decide)
        refine lv_iinc (v := v_3900) (lv' := [(4, .int v_3900), (0, .ref fa), (1, .int p1), (2, .ref ta), (3, .int p3)]) hx hb dX12_copies_23 hl (k := 0) rfl v_3900_e.symm (by decide) rfl (fun ls hl => ?_)
        refine lv_goto (tgt := 3) hx hb dX12_copies_26 (by decide) ?_
        exact ih_3892 v_3900 f_3899 H _ ls (tr_w h_v_3900 (by decide) (by decide)) (by rw [f_3899_e, show v_3900.toInt.toNat = _ + 1 from (by omega : _ = x_3890.toInt.toNat + 1)]; exact va_cpy_step hr3892_0 (by show Int.toNat _ = _; omega) g_v_3898) (by omega) (hP.sub [0, 1] rfl) (hD.sub [0, 1] (by decide) rfl) hS (lv_sub hl [0, 1, 2, 3, 4] rfl)
  exact lp_3892 194 0 tf s.heap _ ls (⟨by decide, by decide⟩ : 0 ≤ (0 : Int32).toInt ∧ (0 : Int32).toInt ≤ 193) (va_cpy_zero _ _ _ _) (by decide) (hP.sub [0, 1] rfl) (hD.sub [0, 1] (by decide) rfl) hS (lv_sub hl [0, 1, 2, 3, 4] rfl)
set_option maxHeartbeats 4000000 in
set_option maxRecDepth 100000 in
theorem c_X12_copiesK (l : Launch) (D : va_G) (g : Nat → ClassId) (sz : Nat) (fa : Nat) (p1 : Int32) (ta : Nat) (p3 : Int32) (ff : Nat → Int32) (tf : Nat → Int32) (h_p1 : 0 ≤ (p1 : Int32).toInt ∧ (p1 : Int32).toInt ≤ 0) (h_p3 : 0 ≤ (p3 : Int32).toInt ∧ (p3 : Int32).toInt ≤ 193) : Met l yX12_copies (.code yX12_copies cX12_copies 5 none :: wsL_law) ({ frames := 0, cells := 0, slots := 0, locals := 0 }) (va_Pc [.ref fa, .int p1, .ref ta, .int p3] (fun U => U.heap.size = sz ∧ va_P D vwCl [(fa, .inl (g 0, 193, .inl ff)), (ta, .inl (g 0, 386, .inl tf))] U.heap ∧ va_K D vwCl (TY g) U ∧ va_D (fun _ => True) [(fa, .inl (g 0, 193, .inl ff)), (ta, .inl (g 0, 386, .inl tf))])) (va_Qv (fun (_ : Unit) => True) (fun _ t => ∃ otf : Nat → Int32, (otf = va_cpy ff tf (p1 : Int32).toInt.toNat (p3 : Int32).toInt.toNat 193) ∧ va_P D vwCl [(fa, .inl (g 0, 193, .inl ff)), (ta, .inl (g 0, 386, .inl otf))] t.heap ∧ va_D (va_A [(fa, .inl (g 0, 193, .inl ff)), (ta, .inl (g 0, 386, .inl tf))] sz) [(fa, .inl (g 0, 193, .inl ff)), (ta, .inl (g 0, 386, .inl otf))]) (va_A [(fa, .inl (g 0, 193, .inl ff)), (ta, .inl (g 0, 386, .inl tf))] sz)) 0 0 (va_A [(fa, .inl (g 0, 193, .inl ff)), (ta, .inl (g 0, 386, .inl tf))] sz) := by
  refine Met.ofW (cc := cX12_copies) (maxL := 5) (ret := none) (by decide) rfl ?_
  intro p e s m args below meth c s₁ B hml hv
  obtain ⟨ha, hsz, hP, hK, hD0⟩ := hv
  have hx := B.exec
  have hb := B.bytes
  have hr := B.returns
  have hts0 := atoms_spec (ws := (.code yX12_copies cX12_copies 5 none :: wsL_law)) B.pre
  have hts : ∀ w ∈ wsL_law, w.before args s = true := fun w h => hts0 w (List.mem_cons_of_mem _ h)
  have hown : s.vm.findClass RX12 = some m.cls := findClass_of_methodNamed B.named
  have hlocks := B.notSynchronized
  subst hsz
  have hD := hD0.self (sz := s.heap.size)
  generalize hAe : va_A [(fa, .inl (g 0, 193, .inl ff)), (ta, .inl (g 0, 386, .inl tf))] s.heap.size = A at hD ⊢
  have hA : ∀ q : Nat, s.heap.size ≤ q → A q := fun q h => by rw [← hAe]; exact Or.inr h
  have hS : va_S A s.heap s.heap [] := va_S.rf
  have hP : va_P D vwCl [(fa, .inl (g 0, 193, .inl ff)), (ta, .inl (g 0, 386, .inl tf))] s.heap := hP
  refine W.eq (g2 := entryFrame m ([.ref fa, .int p1, .ref ta, .int p3] : List Value).toArray 5) (by rw [ha]) ?_
  have hl := lv_entry ([.ref fa, .int p1, .ref ta, .int p3]) (n := 5) (Nat.le_of_ble_eq_true rfl)
  rw [lg_entry_eq]
  generalize (lg_sl ([.ref fa, .int p1, .ref ta, .int p3]) ++ List.replicate (5 - (lg_sl ([.ref fa, .int p1, .ref ta, .int p3])).length) Slot.unset).toArray = ls at hl ⊢
  have hl : lv_has ls 5 [(0, .ref fa), (1, .int p1), (2, .ref ta), (3, .int p3)] := hl
  refine lv_iconst (v := 0) hx hb dX12_copies_0 (by decide) ?_
  refine lv_istore (lv' := [(4, .int 0), (0, .ref fa), (1, .int p1), (2, .ref ta), (3, .int p3)]) hx hb dX12_copies_1 hl (by decide) rfl (fun ls hl => ?_)
  have lp_3922 : ∀ (n_3922 : Nat) (x_3920 : Int32) (f_3921 : Nat → Int32) (H : Heap) (locs : List Loc) (ls : Array Slot), (0 ≤ (x_3920 : Int32).toInt ∧ (x_3920 : Int32).toInt ≤ 193) → (f_3921 = va_cpy ff tf p1.toInt.toNat p3.toInt.toNat x_3920.toInt.toNat) → (193 - x_3920.toInt < (n_3922 : Int)) → va_P D vwCl [(fa, .inl (g 0, 193, .inl ff)), (ta, .inl (g 0, 386, .inl f_3921))] H → va_D A [(fa, .inl (g 0, 193, .inl ff)), (ta, .inl (g 0, 386, .inl f_3921))] → va_S A s.heap H locs → lv_has ls 5 [(4, .int x_3920), (0, .ref fa), (1, .int p1), (2, .ref ta), (3, .int p3)] → W p l e (headSpec (.code yX12_copies cX12_copies 5 none :: wsL_law) ({ frames := 0, cells := 0, slots := 0, locals := 0 })).room s m args below meth c H locs 0 0 (MQ below (va_Qv (fun (_ : Unit) => True) (fun _ t => ∃ otf : Nat → Int32, (otf = va_cpy ff tf (p1 : Int32).toInt.toNat (p3 : Int32).toInt.toNat 193) ∧ va_P D vwCl [(fa, .inl (g 0, 193, .inl ff)), (ta, .inl (g 0, 386, .inl otf))] t.heap ∧ va_D A [(fa, .inl (g 0, 193, .inl ff)), (ta, .inl (g 0, 386, .inl otf))]) A) args s 0 0 A) (F0 m 3 ls []) := by
    intro n_3922
    induction n_3922 with
    | zero =>
      intro x_3920 f_3921 H locs ls h_x_3920 hr3922_0 hm_3922 hP hD hS hl
      exfalso; omega
    | succ n_3922 ih_3922 =>
      intro x_3920 f_3921 H locs ls h_x_3920 hr3922_0 hm_3922 hP hD hS hl
      refine lv_iload hx hb dX12_copies_3 (lv_at hl 0 rfl) ?_
      refine lv_sipush (v := 193) hx hb dX12_copies_5 (by decide) ?_
      refine lv_icmp_ge (tgt := 29) hx hb dX12_copies_8 (by decide) (fun c_3923 => ?_) (fun c_3923 => ?_)
      · skip
        have kk_193 := tk_193
        have c_3923_i := Int32.le_iff_toInt_le.mp c_3923
        have c_3923_i := Int32.le_iff_toInt_le.mp c_3923
        have h_3924 : 193 ≤ (x_3920 : Int32).toInt ∧ (x_3920 : Int32).toInt ≤ 193 := by have q1 := h_x_3920; have q2 := (⟨by decide, by decide⟩ : 193 ≤ (193 : Int32).toInt ∧ (193 : Int32).toInt ≤ 193); omega
        have hP9 := hP.sub (ws' := [(fa, .inl (g 0, 193, .inl ff)), (ta, .inl (g 0, 386, .inl f_3921))]) [0, 1] rfl
        have hD9 := hD.sub (ws' := [(fa, .inl (g 0, 193, .inl ff)), (ta, .inl (g 0, 386, .inl f_3921))]) [0, 1] (by decide) rfl
        exact W.vret hx hb hr (fun t ht hW => ⟨⟨(), rfl, trivial, f_3921, (hr3922_0.trans (congrArg (va_cpy ff tf p1.toInt.toNat p3.toInt.toNat) (by have z_193 := tk_193; omega))), by rw [ht]; exact hP9, hD9⟩, hS.F ht⟩) hS.2.2 dX12_copies_29
      · skip
        have kk_193 := tk_193
        have c_3923_i := Int32.lt_iff_toInt_lt.mp (Int32.not_le.mp c_3923)
        have c_3923_i := Int32.lt_iff_toInt_lt.mp (Int32.not_le.mp c_3923)
        have h_3925 : 0 ≤ (x_3920 : Int32).toInt ∧ (x_3920 : Int32).toInt ≤ 192 := by have q1 := h_x_3920; have q2 := (⟨by decide, by decide⟩ : 193 ≤ (193 : Int32).toInt ∧ (193 : Int32).toInt ≤ 193); omega
        refine lv_aload_n hx hb dX12_copies_11 rfl (lv_at hl 3 rfl) ?_
        refine lv_iload_n hx hb dX12_copies_12 rfl (lv_at hl 4 rfl) ?_
        refine lv_iload hx hb dX12_copies_13 (lv_at hl 0 rfl) ?_
        refine lv_iadd hx hb dX12_copies_15 ?_
        refine lv_topi (fun v_3926 v_3926_e => ?_)
        have h_v_3926 : 0 ≤ (v_3926 : Int32).toInt ∧ (v_3926 : Int32).toInt ≤ 385 := by rw [v_3926_e]; exact tr_add h_p3 h_3925 (by decide) (by decide) (by decide) (by decide)
        have q_v_3926 : v_3926.toInt = p3.toInt + x_3920.toInt := by rw [v_3926_e]; exact tr_addX h_p3 h_3925 (by decide) (by decide)
        refine lv_aload_n hx hb dX12_copies_16 rfl (lv_at hl 1 rfl) ?_
        refine lv_iload_n hx hb dX12_copies_17 rfl (lv_at hl 2 rfl) ?_
        refine lv_iload hx hb dX12_copies_18 (lv_at hl 0 rfl) ?_
        refine lv_iadd hx hb dX12_copies_20 ?_
        refine lv_topi (fun v_3927 v_3927_e => ?_)
        have h_v_3927 : 0 ≤ (v_3927 : Int32).toInt ∧ (v_3927 : Int32).toInt ≤ 192 := by rw [v_3927_e]; exact tr_add h_p1 h_3925 (by decide) (by decide) (by decide) (by decide)
        have q_v_3927 : v_3927.toInt = p1.toInt + x_3920.toInt := by rw [v_3927_e]; exact tr_addX h_p1 h_3925 (by decide) (by decide)
        refine va_iald hx hb hK hP 0 0 rfl rfl (tr_in h_v_3927 (by decide) (by decide)) dX12_copies_21 ?_
        refine lv_topi (fun v_3928 v_3928_e => ?_)
        have g_v_3928 : v_3928 = ff (p1.toInt.toNat + x_3920.toInt.toNat) := v_3928_e.trans (congrArg ff (by show Int.toNat _ = _; omega))
        have gi_v_3928 := congrArg Int32.toInt g_v_3928
        refine va_iast hx hb hK hP hD hS 1 0 rfl rfl (tr_in h_v_3926 (by decide) (by decide)) dX12_copies_22 (fun H locs hP hD hS => ?_)
        obtain ⟨f_3929, f_3929_e, hP, hD⟩ : ∃ FX : Nat → Int32, FX = (upd f_3921 (v_3926 : Int32).toNatClampNeg v_3928) ∧ va_P D vwCl [(fa, .inl (g 0, 193, .inl ff)), (ta, .inl (g 0, 386, .inl FX))] H ∧ va_D A [(fa, .inl (g 0, 193, .inl ff)), (ta, .inl (g 0, 386, .inl FX))] := ⟨_, rfl, hP, hD⟩
        have hP : va_P D vwCl [(fa, .inl (g 0, 193, .inl ff)), (ta, .inl (g 0, 386, .inl f_3929))] H := hP
        have hD : va_D A [(fa, .inl (g 0, 193, .inl ff)), (ta, .inl (g 0, 386, .inl f_3929))] := hD
        obtain ⟨v_3930, v_3930_e⟩ : ∃ y : Int32, y = x_3920 + Int32.ofInt 1 := ⟨_, rfl⟩
        have h_v_3930 : 1 ≤ (v_3930 : Int32).toInt ∧ (v_3930 : Int32).toInt ≤ 193 := by rw [v_3930_e]; exact tr_add h_3925 (⟨by decide, by decide⟩ : 1 ≤ (Int32.ofInt 1 : Int32).toInt ∧ (Int32.ofInt 1 : Int32).toInt ≤ 1) (by decide) (by decide) (by decide) (by decide)
        have q_v_3930 : v_3930.toInt = x_3920.toInt + 1 := by rw [v_3930_e]; exact tr_addE h_3925 (⟨by decide, by decide⟩ : 1 ≤ (Int32.ofInt 1 : Int32).toInt ∧ (Int32.ofInt 1 : Int32).toInt ≤ 1) (by decide) (by decide)
        refine lv_iinc (v := v_3930) (lv' := [(4, .int v_3930), (0, .ref fa), (1, .int p1), (2, .ref ta), (3, .int p3)]) hx hb dX12_copies_23 hl (k := 0) rfl v_3930_e.symm (by decide) rfl (fun ls hl => ?_)
        refine lv_goto (tgt := 3) hx hb dX12_copies_26 (by decide) ?_
        exact ih_3922 v_3930 f_3929 H _ ls (tr_w h_v_3930 (by decide) (by decide)) (by rw [f_3929_e, show v_3930.toInt.toNat = _ + 1 from (by omega : _ = x_3920.toInt.toNat + 1)]; exact va_cpy_step hr3922_0 (by show Int.toNat _ = _; omega) g_v_3928) (by omega) (hP.sub [0, 1] rfl) (hD.sub [0, 1] (by decide) rfl) hS (lv_sub hl [0, 1, 2, 3, 4] rfl)
  exact lp_3922 194 0 tf s.heap _ ls (⟨by decide, by decide⟩ : 0 ≤ (0 : Int32).toInt ∧ (0 : Int32).toInt ≤ 193) (va_cpy_zero _ _ _ _) (by decide) (hP.sub [0, 1] rfl) (hD.sub [0, 1] (by decide) rfl) hS (lv_sub hl [0, 1, 2, 3, 4] rfl)
set_option maxHeartbeats 4000000 in
set_option maxRecDepth 100000 in
theorem c_X12_copiesU (l : Launch) (D : va_G) (g : Nat → ClassId) (sz : Nat) (fa : Nat) (p1 : Int32) (ta : Nat) (p3 : Int32) (ff : Nat → Int32) (tf : Nat → Int32) (h_p1 : 0 ≤ (p1 : Int32).toInt ∧ (p1 : Int32).toInt ≤ 0) (h_p3 : 0 ≤ (p3 : Int32).toInt ∧ (p3 : Int32).toInt ≤ 1351) : Met l yX12_copies (.code yX12_copies cX12_copies 5 none :: wsL_law) ({ frames := 0, cells := 0, slots := 0, locals := 0 }) (va_Pc [.ref fa, .int p1, .ref ta, .int p3] (fun U => U.heap.size = sz ∧ va_P D vwCl [(fa, .inl (g 0, 193, .inl ff)), (ta, .inl (g 0, 1544, .inl tf))] U.heap ∧ va_K D vwCl (TY g) U ∧ va_D (fun _ => True) [(fa, .inl (g 0, 193, .inl ff)), (ta, .inl (g 0, 1544, .inl tf))])) (va_Qv (fun (_ : Unit) => True) (fun _ t => ∃ otf : Nat → Int32, (otf = va_cpy ff tf (p1 : Int32).toInt.toNat (p3 : Int32).toInt.toNat 193) ∧ va_P D vwCl [(fa, .inl (g 0, 193, .inl ff)), (ta, .inl (g 0, 1544, .inl otf))] t.heap ∧ va_D (va_A [(fa, .inl (g 0, 193, .inl ff)), (ta, .inl (g 0, 1544, .inl tf))] sz) [(fa, .inl (g 0, 193, .inl ff)), (ta, .inl (g 0, 1544, .inl otf))]) (va_A [(fa, .inl (g 0, 193, .inl ff)), (ta, .inl (g 0, 1544, .inl tf))] sz)) 0 0 (va_A [(fa, .inl (g 0, 193, .inl ff)), (ta, .inl (g 0, 1544, .inl tf))] sz) := by
  refine Met.ofW (cc := cX12_copies) (maxL := 5) (ret := none) (by decide) rfl ?_
  intro p e s m args below meth c s₁ B hml hv
  obtain ⟨ha, hsz, hP, hK, hD0⟩ := hv
  have hx := B.exec
  have hb := B.bytes
  have hr := B.returns
  have hts0 := atoms_spec (ws := (.code yX12_copies cX12_copies 5 none :: wsL_law)) B.pre
  have hts : ∀ w ∈ wsL_law, w.before args s = true := fun w h => hts0 w (List.mem_cons_of_mem _ h)
  have hown : s.vm.findClass RX12 = some m.cls := findClass_of_methodNamed B.named
  have hlocks := B.notSynchronized
  subst hsz
  have hD := hD0.self (sz := s.heap.size)
  generalize hAe : va_A [(fa, .inl (g 0, 193, .inl ff)), (ta, .inl (g 0, 1544, .inl tf))] s.heap.size = A at hD ⊢
  have hA : ∀ q : Nat, s.heap.size ≤ q → A q := fun q h => by rw [← hAe]; exact Or.inr h
  have hS : va_S A s.heap s.heap [] := va_S.rf
  have hP : va_P D vwCl [(fa, .inl (g 0, 193, .inl ff)), (ta, .inl (g 0, 1544, .inl tf))] s.heap := hP
  refine W.eq (g2 := entryFrame m ([.ref fa, .int p1, .ref ta, .int p3] : List Value).toArray 5) (by rw [ha]) ?_
  have hl := lv_entry ([.ref fa, .int p1, .ref ta, .int p3]) (n := 5) (Nat.le_of_ble_eq_true rfl)
  rw [lg_entry_eq]
  generalize (lg_sl ([.ref fa, .int p1, .ref ta, .int p3]) ++ List.replicate (5 - (lg_sl ([.ref fa, .int p1, .ref ta, .int p3])).length) Slot.unset).toArray = ls at hl ⊢
  have hl : lv_has ls 5 [(0, .ref fa), (1, .int p1), (2, .ref ta), (3, .int p3)] := hl
  refine lv_iconst (v := 0) hx hb dX12_copies_0 (by decide) ?_
  refine lv_istore (lv' := [(4, .int 0), (0, .ref fa), (1, .int p1), (2, .ref ta), (3, .int p3)]) hx hb dX12_copies_1 hl (by decide) rfl (fun ls hl => ?_)
  have lp_3952 : ∀ (n_3952 : Nat) (x_3950 : Int32) (f_3951 : Nat → Int32) (H : Heap) (locs : List Loc) (ls : Array Slot), (0 ≤ (x_3950 : Int32).toInt ∧ (x_3950 : Int32).toInt ≤ 193) → (f_3951 = va_cpy ff tf p1.toInt.toNat p3.toInt.toNat x_3950.toInt.toNat) → (193 - x_3950.toInt < (n_3952 : Int)) → va_P D vwCl [(fa, .inl (g 0, 193, .inl ff)), (ta, .inl (g 0, 1544, .inl f_3951))] H → va_D A [(fa, .inl (g 0, 193, .inl ff)), (ta, .inl (g 0, 1544, .inl f_3951))] → va_S A s.heap H locs → lv_has ls 5 [(4, .int x_3950), (0, .ref fa), (1, .int p1), (2, .ref ta), (3, .int p3)] → W p l e (headSpec (.code yX12_copies cX12_copies 5 none :: wsL_law) ({ frames := 0, cells := 0, slots := 0, locals := 0 })).room s m args below meth c H locs 0 0 (MQ below (va_Qv (fun (_ : Unit) => True) (fun _ t => ∃ otf : Nat → Int32, (otf = va_cpy ff tf (p1 : Int32).toInt.toNat (p3 : Int32).toInt.toNat 193) ∧ va_P D vwCl [(fa, .inl (g 0, 193, .inl ff)), (ta, .inl (g 0, 1544, .inl otf))] t.heap ∧ va_D A [(fa, .inl (g 0, 193, .inl ff)), (ta, .inl (g 0, 1544, .inl otf))]) A) args s 0 0 A) (F0 m 3 ls []) := by
    intro n_3952
    induction n_3952 with
    | zero =>
      intro x_3950 f_3951 H locs ls h_x_3950 hr3952_0 hm_3952 hP hD hS hl
      exfalso; omega
    | succ n_3952 ih_3952 =>
      intro x_3950 f_3951 H locs ls h_x_3950 hr3952_0 hm_3952 hP hD hS hl
      refine lv_iload hx hb dX12_copies_3 (lv_at hl 0 rfl) ?_
      refine lv_sipush (v := 193) hx hb dX12_copies_5 (by decide) ?_
      refine lv_icmp_ge (tgt := 29) hx hb dX12_copies_8 (by decide) (fun c_3953 => ?_) (fun c_3953 => ?_)
      · skip
        have kk_193 := tk_193
        have c_3953_i := Int32.le_iff_toInt_le.mp c_3953
        have c_3953_i := Int32.le_iff_toInt_le.mp c_3953
        have h_3954 : 193 ≤ (x_3950 : Int32).toInt ∧ (x_3950 : Int32).toInt ≤ 193 := by have q1 := h_x_3950; have q2 := (⟨by decide, by decide⟩ : 193 ≤ (193 : Int32).toInt ∧ (193 : Int32).toInt ≤ 193); omega
        have hP9 := hP.sub (ws' := [(fa, .inl (g 0, 193, .inl ff)), (ta, .inl (g 0, 1544, .inl f_3951))]) [0, 1] rfl
        have hD9 := hD.sub (ws' := [(fa, .inl (g 0, 193, .inl ff)), (ta, .inl (g 0, 1544, .inl f_3951))]) [0, 1] (by decide) rfl
        exact W.vret hx hb hr (fun t ht hW => ⟨⟨(), rfl, trivial, f_3951, (hr3952_0.trans (congrArg (va_cpy ff tf p1.toInt.toNat p3.toInt.toNat) (by have z_193 := tk_193; omega))), by rw [ht]; exact hP9, hD9⟩, hS.F ht⟩) hS.2.2 dX12_copies_29
      · skip
        have kk_193 := tk_193
        have c_3953_i := Int32.lt_iff_toInt_lt.mp (Int32.not_le.mp c_3953)
        have c_3953_i := Int32.lt_iff_toInt_lt.mp (Int32.not_le.mp c_3953)
        have h_3955 : 0 ≤ (x_3950 : Int32).toInt ∧ (x_3950 : Int32).toInt ≤ 192 := by have q1 := h_x_3950; have q2 := (⟨by decide, by decide⟩ : 193 ≤ (193 : Int32).toInt ∧ (193 : Int32).toInt ≤ 193); omega
        refine lv_aload_n hx hb dX12_copies_11 rfl (lv_at hl 3 rfl) ?_
        refine lv_iload_n hx hb dX12_copies_12 rfl (lv_at hl 4 rfl) ?_
        refine lv_iload hx hb dX12_copies_13 (lv_at hl 0 rfl) ?_
        refine lv_iadd hx hb dX12_copies_15 ?_
        refine lv_topi (fun v_3956 v_3956_e => ?_)
        have h_v_3956 : 0 ≤ (v_3956 : Int32).toInt ∧ (v_3956 : Int32).toInt ≤ 1543 := by rw [v_3956_e]; exact tr_add h_p3 h_3955 (by decide) (by decide) (by decide) (by decide)
        have q_v_3956 : v_3956.toInt = p3.toInt + x_3950.toInt := by rw [v_3956_e]; exact tr_addX h_p3 h_3955 (by decide) (by decide)
        refine lv_aload_n hx hb dX12_copies_16 rfl (lv_at hl 1 rfl) ?_
        refine lv_iload_n hx hb dX12_copies_17 rfl (lv_at hl 2 rfl) ?_
        refine lv_iload hx hb dX12_copies_18 (lv_at hl 0 rfl) ?_
        refine lv_iadd hx hb dX12_copies_20 ?_
        refine lv_topi (fun v_3957 v_3957_e => ?_)
        have h_v_3957 : 0 ≤ (v_3957 : Int32).toInt ∧ (v_3957 : Int32).toInt ≤ 192 := by rw [v_3957_e]; exact tr_add h_p1 h_3955 (by decide) (by decide) (by decide) (by decide)
        have q_v_3957 : v_3957.toInt = p1.toInt + x_3950.toInt := by rw [v_3957_e]; exact tr_addX h_p1 h_3955 (by decide) (by decide)
        refine va_iald hx hb hK hP 0 0 rfl rfl (tr_in h_v_3957 (by decide) (by decide)) dX12_copies_21 ?_
        refine lv_topi (fun v_3958 v_3958_e => ?_)
        have g_v_3958 : v_3958 = ff (p1.toInt.toNat + x_3950.toInt.toNat) := v_3958_e.trans (congrArg ff (by show Int.toNat _ = _; omega))
        have gi_v_3958 := congrArg Int32.toInt g_v_3958
        refine va_iast hx hb hK hP hD hS 1 0 rfl rfl (tr_in h_v_3956 (by decide) (by decide)) dX12_copies_22 (fun H locs hP hD hS => ?_)
        obtain ⟨f_3959, f_3959_e, hP, hD⟩ : ∃ FX : Nat → Int32, FX = (upd f_3951 (v_3956 : Int32).toNatClampNeg v_3958) ∧ va_P D vwCl [(fa, .inl (g 0, 193, .inl ff)), (ta, .inl (g 0, 1544, .inl FX))] H ∧ va_D A [(fa, .inl (g 0, 193, .inl ff)), (ta, .inl (g 0, 1544, .inl FX))] := ⟨_, rfl, hP, hD⟩
        have hP : va_P D vwCl [(fa, .inl (g 0, 193, .inl ff)), (ta, .inl (g 0, 1544, .inl f_3959))] H := hP
        have hD : va_D A [(fa, .inl (g 0, 193, .inl ff)), (ta, .inl (g 0, 1544, .inl f_3959))] := hD
        obtain ⟨v_3960, v_3960_e⟩ : ∃ y : Int32, y = x_3950 + Int32.ofInt 1 := ⟨_, rfl⟩
        have h_v_3960 : 1 ≤ (v_3960 : Int32).toInt ∧ (v_3960 : Int32).toInt ≤ 193 := by rw [v_3960_e]; exact tr_add h_3955 (⟨by decide, by decide⟩ : 1 ≤ (Int32.ofInt 1 : Int32).toInt ∧ (Int32.ofInt 1 : Int32).toInt ≤ 1) (by decide) (by decide) (by decide) (by decide)
        have q_v_3960 : v_3960.toInt = x_3950.toInt + 1 := by rw [v_3960_e]; exact tr_addE h_3955 (⟨by decide, by decide⟩ : 1 ≤ (Int32.ofInt 1 : Int32).toInt ∧ (Int32.ofInt 1 : Int32).toInt ≤ 1) (by decide) (by decide)
        refine lv_iinc (v := v_3960) (lv' := [(4, .int v_3960), (0, .ref fa), (1, .int p1), (2, .ref ta), (3, .int p3)]) hx hb dX12_copies_23 hl (k := 0) rfl v_3960_e.symm (by decide) rfl (fun ls hl => ?_)
        refine lv_goto (tgt := 3) hx hb dX12_copies_26 (by decide) ?_
        exact ih_3952 v_3960 f_3959 H _ ls (tr_w h_v_3960 (by decide) (by decide)) (by rw [f_3959_e, show v_3960.toInt.toNat = _ + 1 from (by omega : _ = x_3950.toInt.toNat + 1)]; exact va_cpy_step hr3952_0 (by show Int.toNat _ = _; omega) g_v_3958) (by omega) (hP.sub [0, 1] rfl) (hD.sub [0, 1] (by decide) rfl) hS (lv_sub hl [0, 1, 2, 3, 4] rfl)
  exact lp_3952 194 0 tf s.heap _ ls (⟨by decide, by decide⟩ : 0 ≤ (0 : Int32).toInt ∧ (0 : Int32).toInt ≤ 193) (va_cpy_zero _ _ _ _) (by decide) (hP.sub [0, 1] rfl) (hD.sub [0, 1] (by decide) rfl) hS (lv_sub hl [0, 1, 2, 3, 4] rfl)
set_option maxHeartbeats 4000000 in
set_option maxRecDepth 100000 in
theorem c_X12_copiesR (l : Launch) (D : va_G) (g : Nat → ClassId) (sz : Nat) (fa : Nat) (p1 : Int32) (ta : Nat) (p3 : Int32) (ff : Nat → Int32) (tf : Nat → Int32) (h_p1 : 0 ≤ (p1 : Int32).toInt ∧ (p1 : Int32).toInt ≤ 193) (h_p3 : 0 ≤ (p3 : Int32).toInt ∧ (p3 : Int32).toInt ≤ 0) : Met l yX12_copies (.code yX12_copies cX12_copies 5 none :: wsL_law) ({ frames := 0, cells := 0, slots := 0, locals := 0 }) (va_Pc [.ref fa, .int p1, .ref ta, .int p3] (fun U => U.heap.size = sz ∧ va_P D vwCl [(fa, .inl (g 0, 386, .inl ff)), (ta, .inl (g 0, 193, .inl tf))] U.heap ∧ va_K D vwCl (TY g) U ∧ va_D (fun _ => True) [(fa, .inl (g 0, 386, .inl ff)), (ta, .inl (g 0, 193, .inl tf))])) (va_Qv (fun (_ : Unit) => True) (fun _ t => ∃ otf : Nat → Int32, (otf = va_cpy ff tf (p1 : Int32).toInt.toNat (p3 : Int32).toInt.toNat 193) ∧ va_P D vwCl [(fa, .inl (g 0, 386, .inl ff)), (ta, .inl (g 0, 193, .inl otf))] t.heap ∧ va_D (va_A [(fa, .inl (g 0, 386, .inl ff)), (ta, .inl (g 0, 193, .inl tf))] sz) [(fa, .inl (g 0, 386, .inl ff)), (ta, .inl (g 0, 193, .inl otf))]) (va_A [(fa, .inl (g 0, 386, .inl ff)), (ta, .inl (g 0, 193, .inl tf))] sz)) 0 0 (va_A [(fa, .inl (g 0, 386, .inl ff)), (ta, .inl (g 0, 193, .inl tf))] sz) := by
  refine Met.ofW (cc := cX12_copies) (maxL := 5) (ret := none) (by decide) rfl ?_
  intro p e s m args below meth c s₁ B hml hv
  obtain ⟨ha, hsz, hP, hK, hD0⟩ := hv
  have hx := B.exec
  have hb := B.bytes
  have hr := B.returns
  have hts0 := atoms_spec (ws := (.code yX12_copies cX12_copies 5 none :: wsL_law)) B.pre
  have hts : ∀ w ∈ wsL_law, w.before args s = true := fun w h => hts0 w (List.mem_cons_of_mem _ h)
  have hown : s.vm.findClass RX12 = some m.cls := findClass_of_methodNamed B.named
  have hlocks := B.notSynchronized
  subst hsz
  have hD := hD0.self (sz := s.heap.size)
  generalize hAe : va_A [(fa, .inl (g 0, 386, .inl ff)), (ta, .inl (g 0, 193, .inl tf))] s.heap.size = A at hD ⊢
  have hA : ∀ q : Nat, s.heap.size ≤ q → A q := fun q h => by rw [← hAe]; exact Or.inr h
  have hS : va_S A s.heap s.heap [] := va_S.rf
  have hP : va_P D vwCl [(fa, .inl (g 0, 386, .inl ff)), (ta, .inl (g 0, 193, .inl tf))] s.heap := hP
  refine W.eq (g2 := entryFrame m ([.ref fa, .int p1, .ref ta, .int p3] : List Value).toArray 5) (by rw [ha]) ?_
  have hl := lv_entry ([.ref fa, .int p1, .ref ta, .int p3]) (n := 5) (Nat.le_of_ble_eq_true rfl)
  rw [lg_entry_eq]
  generalize (lg_sl ([.ref fa, .int p1, .ref ta, .int p3]) ++ List.replicate (5 - (lg_sl ([.ref fa, .int p1, .ref ta, .int p3])).length) Slot.unset).toArray = ls at hl ⊢
  have hl : lv_has ls 5 [(0, .ref fa), (1, .int p1), (2, .ref ta), (3, .int p3)] := hl
  refine lv_iconst (v := 0) hx hb dX12_copies_0 (by decide) ?_
  refine lv_istore (lv' := [(4, .int 0), (0, .ref fa), (1, .int p1), (2, .ref ta), (3, .int p3)]) hx hb dX12_copies_1 hl (by decide) rfl (fun ls hl => ?_)
  have lp_3982 : ∀ (n_3982 : Nat) (x_3980 : Int32) (f_3981 : Nat → Int32) (H : Heap) (locs : List Loc) (ls : Array Slot), (0 ≤ (x_3980 : Int32).toInt ∧ (x_3980 : Int32).toInt ≤ 193) → (f_3981 = va_cpy ff tf p1.toInt.toNat p3.toInt.toNat x_3980.toInt.toNat) → (193 - x_3980.toInt < (n_3982 : Int)) → va_P D vwCl [(fa, .inl (g 0, 386, .inl ff)), (ta, .inl (g 0, 193, .inl f_3981))] H → va_D A [(fa, .inl (g 0, 386, .inl ff)), (ta, .inl (g 0, 193, .inl f_3981))] → va_S A s.heap H locs → lv_has ls 5 [(4, .int x_3980), (0, .ref fa), (1, .int p1), (2, .ref ta), (3, .int p3)] → W p l e (headSpec (.code yX12_copies cX12_copies 5 none :: wsL_law) ({ frames := 0, cells := 0, slots := 0, locals := 0 })).room s m args below meth c H locs 0 0 (MQ below (va_Qv (fun (_ : Unit) => True) (fun _ t => ∃ otf : Nat → Int32, (otf = va_cpy ff tf (p1 : Int32).toInt.toNat (p3 : Int32).toInt.toNat 193) ∧ va_P D vwCl [(fa, .inl (g 0, 386, .inl ff)), (ta, .inl (g 0, 193, .inl otf))] t.heap ∧ va_D A [(fa, .inl (g 0, 386, .inl ff)), (ta, .inl (g 0, 193, .inl otf))]) A) args s 0 0 A) (F0 m 3 ls []) := by
    intro n_3982
    induction n_3982 with
    | zero =>
      intro x_3980 f_3981 H locs ls h_x_3980 hr3982_0 hm_3982 hP hD hS hl
      exfalso; omega
    | succ n_3982 ih_3982 =>
      intro x_3980 f_3981 H locs ls h_x_3980 hr3982_0 hm_3982 hP hD hS hl
      refine lv_iload hx hb dX12_copies_3 (lv_at hl 0 rfl) ?_
      refine lv_sipush (v := 193) hx hb dX12_copies_5 (by decide) ?_
      refine lv_icmp_ge (tgt := 29) hx hb dX12_copies_8 (by decide) (fun c_3983 => ?_) (fun c_3983 => ?_)
      · skip
        have kk_193 := tk_193
        have c_3983_i := Int32.le_iff_toInt_le.mp c_3983
        have c_3983_i := Int32.le_iff_toInt_le.mp c_3983
        have h_3984 : 193 ≤ (x_3980 : Int32).toInt ∧ (x_3980 : Int32).toInt ≤ 193 := by have q1 := h_x_3980; have q2 := (⟨by decide, by decide⟩ : 193 ≤ (193 : Int32).toInt ∧ (193 : Int32).toInt ≤ 193); omega
        have hP9 := hP.sub (ws' := [(fa, .inl (g 0, 386, .inl ff)), (ta, .inl (g 0, 193, .inl f_3981))]) [0, 1] rfl
        have hD9 := hD.sub (ws' := [(fa, .inl (g 0, 386, .inl ff)), (ta, .inl (g 0, 193, .inl f_3981))]) [0, 1] (by decide) rfl
        exact W.vret hx hb hr (fun t ht hW => ⟨⟨(), rfl, trivial, f_3981, (hr3982_0.trans (congrArg (va_cpy ff tf p1.toInt.toNat p3.toInt.toNat) (by have z_193 := tk_193; omega))), by rw [ht]; exact hP9, hD9⟩, hS.F ht⟩) hS.2.2 dX12_copies_29
      · skip
        have kk_193 := tk_193
        have c_3983_i := Int32.lt_iff_toInt_lt.mp (Int32.not_le.mp c_3983)
        have c_3983_i := Int32.lt_iff_toInt_lt.mp (Int32.not_le.mp c_3983)
        have h_3985 : 0 ≤ (x_3980 : Int32).toInt ∧ (x_3980 : Int32).toInt ≤ 192 := by have q1 := h_x_3980; have q2 := (⟨by decide, by decide⟩ : 193 ≤ (193 : Int32).toInt ∧ (193 : Int32).toInt ≤ 193); omega
        refine lv_aload_n hx hb dX12_copies_11 rfl (lv_at hl 3 rfl) ?_
        refine lv_iload_n hx hb dX12_copies_12 rfl (lv_at hl 4 rfl) ?_
        refine lv_iload hx hb dX12_copies_13 (lv_at hl 0 rfl) ?_
        refine lv_iadd hx hb dX12_copies_15 ?_
        refine lv_topi (fun v_3986 v_3986_e => ?_)
        have h_v_3986 : 0 ≤ (v_3986 : Int32).toInt ∧ (v_3986 : Int32).toInt ≤ 192 := by rw [v_3986_e]; exact tr_add h_p3 h_3985 (by decide) (by decide) (by decide) (by decide)
        have q_v_3986 : v_3986.toInt = p3.toInt + x_3980.toInt := by rw [v_3986_e]; exact tr_addX h_p3 h_3985 (by decide) (by decide)
        refine lv_aload_n hx hb dX12_copies_16 rfl (lv_at hl 1 rfl) ?_
        refine lv_iload_n hx hb dX12_copies_17 rfl (lv_at hl 2 rfl) ?_
        refine lv_iload hx hb dX12_copies_18 (lv_at hl 0 rfl) ?_
        refine lv_iadd hx hb dX12_copies_20 ?_
        refine lv_topi (fun v_3987 v_3987_e => ?_)
        have h_v_3987 : 0 ≤ (v_3987 : Int32).toInt ∧ (v_3987 : Int32).toInt ≤ 385 := by rw [v_3987_e]; exact tr_add h_p1 h_3985 (by decide) (by decide) (by decide) (by decide)
        have q_v_3987 : v_3987.toInt = p1.toInt + x_3980.toInt := by rw [v_3987_e]; exact tr_addX h_p1 h_3985 (by decide) (by decide)
        refine va_iald hx hb hK hP 0 0 rfl rfl (tr_in h_v_3987 (by decide) (by decide)) dX12_copies_21 ?_
        refine lv_topi (fun v_3988 v_3988_e => ?_)
        have g_v_3988 : v_3988 = ff (p1.toInt.toNat + x_3980.toInt.toNat) := v_3988_e.trans (congrArg ff (by show Int.toNat _ = _; omega))
        have gi_v_3988 := congrArg Int32.toInt g_v_3988
        refine va_iast hx hb hK hP hD hS 1 0 rfl rfl (tr_in h_v_3986 (by decide) (by decide)) dX12_copies_22 (fun H locs hP hD hS => ?_)
        obtain ⟨f_3989, f_3989_e, hP, hD⟩ : ∃ FX : Nat → Int32, FX = (upd f_3981 (v_3986 : Int32).toNatClampNeg v_3988) ∧ va_P D vwCl [(fa, .inl (g 0, 386, .inl ff)), (ta, .inl (g 0, 193, .inl FX))] H ∧ va_D A [(fa, .inl (g 0, 386, .inl ff)), (ta, .inl (g 0, 193, .inl FX))] := ⟨_, rfl, hP, hD⟩
        have hP : va_P D vwCl [(fa, .inl (g 0, 386, .inl ff)), (ta, .inl (g 0, 193, .inl f_3989))] H := hP
        have hD : va_D A [(fa, .inl (g 0, 386, .inl ff)), (ta, .inl (g 0, 193, .inl f_3989))] := hD
        obtain ⟨v_3990, v_3990_e⟩ : ∃ y : Int32, y = x_3980 + Int32.ofInt 1 := ⟨_, rfl⟩
        have h_v_3990 : 1 ≤ (v_3990 : Int32).toInt ∧ (v_3990 : Int32).toInt ≤ 193 := by rw [v_3990_e]; exact tr_add h_3985 (⟨by decide, by decide⟩ : 1 ≤ (Int32.ofInt 1 : Int32).toInt ∧ (Int32.ofInt 1 : Int32).toInt ≤ 1) (by decide) (by decide) (by decide) (by decide)
        have q_v_3990 : v_3990.toInt = x_3980.toInt + 1 := by rw [v_3990_e]; exact tr_addE h_3985 (⟨by decide, by decide⟩ : 1 ≤ (Int32.ofInt 1 : Int32).toInt ∧ (Int32.ofInt 1 : Int32).toInt ≤ 1) (by decide) (by decide)
        refine lv_iinc (v := v_3990) (lv' := [(4, .int v_3990), (0, .ref fa), (1, .int p1), (2, .ref ta), (3, .int p3)]) hx hb dX12_copies_23 hl (k := 0) rfl v_3990_e.symm (by decide) rfl (fun ls hl => ?_)
        refine lv_goto (tgt := 3) hx hb dX12_copies_26 (by decide) ?_
        exact ih_3982 v_3990 f_3989 H _ ls (tr_w h_v_3990 (by decide) (by decide)) (by rw [f_3989_e, show v_3990.toInt.toNat = _ + 1 from (by omega : _ = x_3980.toInt.toNat + 1)]; exact va_cpy_step hr3982_0 (by show Int.toNat _ = _; omega) g_v_3988) (by omega) (hP.sub [0, 1] rfl) (hD.sub [0, 1] (by decide) rfl) hS (lv_sub hl [0, 1, 2, 3, 4] rfl)
  exact lp_3982 194 0 tf s.heap _ ls (⟨by decide, by decide⟩ : 0 ≤ (0 : Int32).toInt ∧ (0 : Int32).toInt ≤ 193) (va_cpy_zero _ _ _ _) (by decide) (hP.sub [0, 1] rfl) (hD.sub [0, 1] (by decide) rfl) hS (lv_sub hl [0, 1, 2, 3, 4] rfl)
set_option maxHeartbeats 4000000 in
set_option maxRecDepth 100000 in
theorem c_X12_copiesB (l : Launch) (D : va_G) (g : Nat → ClassId) (sz : Nat) (fa : Nat) (p1 : Int32) (ta : Nat) (p3 : Int32) (ff : Nat → Int32) (tf : Nat → Int32) (h_p1 : 0 ≤ (p1 : Int32).toInt ∧ (p1 : Int32).toInt ≤ 1351) (h_p3 : 0 ≤ (p3 : Int32).toInt ∧ (p3 : Int32).toInt ≤ 0) : Met l yX12_copies (.code yX12_copies cX12_copies 5 none :: wsL_law) ({ frames := 0, cells := 0, slots := 0, locals := 0 }) (va_Pc [.ref fa, .int p1, .ref ta, .int p3] (fun U => U.heap.size = sz ∧ va_P D vwCl [(fa, .inl (g 0, 1544, .inl ff)), (ta, .inl (g 0, 193, .inl tf))] U.heap ∧ va_K D vwCl (TY g) U ∧ va_D (fun _ => True) [(fa, .inl (g 0, 1544, .inl ff)), (ta, .inl (g 0, 193, .inl tf))])) (va_Qv (fun (_ : Unit) => True) (fun _ t => ∃ otf : Nat → Int32, (otf = va_cpy ff tf (p1 : Int32).toInt.toNat (p3 : Int32).toInt.toNat 193) ∧ va_P D vwCl [(fa, .inl (g 0, 1544, .inl ff)), (ta, .inl (g 0, 193, .inl otf))] t.heap ∧ va_D (va_A [(fa, .inl (g 0, 1544, .inl ff)), (ta, .inl (g 0, 193, .inl tf))] sz) [(fa, .inl (g 0, 1544, .inl ff)), (ta, .inl (g 0, 193, .inl otf))]) (va_A [(fa, .inl (g 0, 1544, .inl ff)), (ta, .inl (g 0, 193, .inl tf))] sz)) 0 0 (va_A [(fa, .inl (g 0, 1544, .inl ff)), (ta, .inl (g 0, 193, .inl tf))] sz) := by
  refine Met.ofW (cc := cX12_copies) (maxL := 5) (ret := none) (by decide) rfl ?_
  intro p e s m args below meth c s₁ B hml hv
  obtain ⟨ha, hsz, hP, hK, hD0⟩ := hv
  have hx := B.exec
  have hb := B.bytes
  have hr := B.returns
  have hts0 := atoms_spec (ws := (.code yX12_copies cX12_copies 5 none :: wsL_law)) B.pre
  have hts : ∀ w ∈ wsL_law, w.before args s = true := fun w h => hts0 w (List.mem_cons_of_mem _ h)
  have hown : s.vm.findClass RX12 = some m.cls := findClass_of_methodNamed B.named
  have hlocks := B.notSynchronized
  subst hsz
  have hD := hD0.self (sz := s.heap.size)
  generalize hAe : va_A [(fa, .inl (g 0, 1544, .inl ff)), (ta, .inl (g 0, 193, .inl tf))] s.heap.size = A at hD ⊢
  have hA : ∀ q : Nat, s.heap.size ≤ q → A q := fun q h => by rw [← hAe]; exact Or.inr h
  have hS : va_S A s.heap s.heap [] := va_S.rf
  have hP : va_P D vwCl [(fa, .inl (g 0, 1544, .inl ff)), (ta, .inl (g 0, 193, .inl tf))] s.heap := hP
  refine W.eq (g2 := entryFrame m ([.ref fa, .int p1, .ref ta, .int p3] : List Value).toArray 5) (by rw [ha]) ?_
  have hl := lv_entry ([.ref fa, .int p1, .ref ta, .int p3]) (n := 5) (Nat.le_of_ble_eq_true rfl)
  rw [lg_entry_eq]
  generalize (lg_sl ([.ref fa, .int p1, .ref ta, .int p3]) ++ List.replicate (5 - (lg_sl ([.ref fa, .int p1, .ref ta, .int p3])).length) Slot.unset).toArray = ls at hl ⊢
  have hl : lv_has ls 5 [(0, .ref fa), (1, .int p1), (2, .ref ta), (3, .int p3)] := hl
  refine lv_iconst (v := 0) hx hb dX12_copies_0 (by decide) ?_
  refine lv_istore (lv' := [(4, .int 0), (0, .ref fa), (1, .int p1), (2, .ref ta), (3, .int p3)]) hx hb dX12_copies_1 hl (by decide) rfl (fun ls hl => ?_)
  have lp_4012 : ∀ (n_4012 : Nat) (x_4010 : Int32) (f_4011 : Nat → Int32) (H : Heap) (locs : List Loc) (ls : Array Slot), (0 ≤ (x_4010 : Int32).toInt ∧ (x_4010 : Int32).toInt ≤ 193) → (f_4011 = va_cpy ff tf p1.toInt.toNat p3.toInt.toNat x_4010.toInt.toNat) → (193 - x_4010.toInt < (n_4012 : Int)) → va_P D vwCl [(fa, .inl (g 0, 1544, .inl ff)), (ta, .inl (g 0, 193, .inl f_4011))] H → va_D A [(fa, .inl (g 0, 1544, .inl ff)), (ta, .inl (g 0, 193, .inl f_4011))] → va_S A s.heap H locs → lv_has ls 5 [(4, .int x_4010), (0, .ref fa), (1, .int p1), (2, .ref ta), (3, .int p3)] → W p l e (headSpec (.code yX12_copies cX12_copies 5 none :: wsL_law) ({ frames := 0, cells := 0, slots := 0, locals := 0 })).room s m args below meth c H locs 0 0 (MQ below (va_Qv (fun (_ : Unit) => True) (fun _ t => ∃ otf : Nat → Int32, (otf = va_cpy ff tf (p1 : Int32).toInt.toNat (p3 : Int32).toInt.toNat 193) ∧ va_P D vwCl [(fa, .inl (g 0, 1544, .inl ff)), (ta, .inl (g 0, 193, .inl otf))] t.heap ∧ va_D A [(fa, .inl (g 0, 1544, .inl ff)), (ta, .inl (g 0, 193, .inl otf))]) A) args s 0 0 A) (F0 m 3 ls []) := by
    intro n_4012
    induction n_4012 with
    | zero =>
      intro x_4010 f_4011 H locs ls h_x_4010 hr4012_0 hm_4012 hP hD hS hl
      exfalso; omega
    | succ n_4012 ih_4012 =>
      intro x_4010 f_4011 H locs ls h_x_4010 hr4012_0 hm_4012 hP hD hS hl
      refine lv_iload hx hb dX12_copies_3 (lv_at hl 0 rfl) ?_
      refine lv_sipush (v := 193) hx hb dX12_copies_5 (by decide) ?_
      refine lv_icmp_ge (tgt := 29) hx hb dX12_copies_8 (by decide) (fun c_4013 => ?_) (fun c_4013 => ?_)
      · skip
        have kk_193 := tk_193
        have c_4013_i := Int32.le_iff_toInt_le.mp c_4013
        have c_4013_i := Int32.le_iff_toInt_le.mp c_4013
        have h_4014 : 193 ≤ (x_4010 : Int32).toInt ∧ (x_4010 : Int32).toInt ≤ 193 := by have q1 := h_x_4010; have q2 := (⟨by decide, by decide⟩ : 193 ≤ (193 : Int32).toInt ∧ (193 : Int32).toInt ≤ 193); omega
        have hP9 := hP.sub (ws' := [(fa, .inl (g 0, 1544, .inl ff)), (ta, .inl (g 0, 193, .inl f_4011))]) [0, 1] rfl
        have hD9 := hD.sub (ws' := [(fa, .inl (g 0, 1544, .inl ff)), (ta, .inl (g 0, 193, .inl f_4011))]) [0, 1] (by decide) rfl
        exact W.vret hx hb hr (fun t ht hW => ⟨⟨(), rfl, trivial, f_4011, (hr4012_0.trans (congrArg (va_cpy ff tf p1.toInt.toNat p3.toInt.toNat) (by have z_193 := tk_193; omega))), by rw [ht]; exact hP9, hD9⟩, hS.F ht⟩) hS.2.2 dX12_copies_29
      · skip
        have kk_193 := tk_193
        have c_4013_i := Int32.lt_iff_toInt_lt.mp (Int32.not_le.mp c_4013)
        have c_4013_i := Int32.lt_iff_toInt_lt.mp (Int32.not_le.mp c_4013)
        have h_4015 : 0 ≤ (x_4010 : Int32).toInt ∧ (x_4010 : Int32).toInt ≤ 192 := by have q1 := h_x_4010; have q2 := (⟨by decide, by decide⟩ : 193 ≤ (193 : Int32).toInt ∧ (193 : Int32).toInt ≤ 193); omega
        refine lv_aload_n hx hb dX12_copies_11 rfl (lv_at hl 3 rfl) ?_
        refine lv_iload_n hx hb dX12_copies_12 rfl (lv_at hl 4 rfl) ?_
        refine lv_iload hx hb dX12_copies_13 (lv_at hl 0 rfl) ?_
        refine lv_iadd hx hb dX12_copies_15 ?_
        refine lv_topi (fun v_4016 v_4016_e => ?_)
        have h_v_4016 : 0 ≤ (v_4016 : Int32).toInt ∧ (v_4016 : Int32).toInt ≤ 192 := by rw [v_4016_e]; exact tr_add h_p3 h_4015 (by decide) (by decide) (by decide) (by decide)
        have q_v_4016 : v_4016.toInt = p3.toInt + x_4010.toInt := by rw [v_4016_e]; exact tr_addX h_p3 h_4015 (by decide) (by decide)
        refine lv_aload_n hx hb dX12_copies_16 rfl (lv_at hl 1 rfl) ?_
        refine lv_iload_n hx hb dX12_copies_17 rfl (lv_at hl 2 rfl) ?_
        refine lv_iload hx hb dX12_copies_18 (lv_at hl 0 rfl) ?_
        refine lv_iadd hx hb dX12_copies_20 ?_
        refine lv_topi (fun v_4017 v_4017_e => ?_)
        have h_v_4017 : 0 ≤ (v_4017 : Int32).toInt ∧ (v_4017 : Int32).toInt ≤ 1543 := by rw [v_4017_e]; exact tr_add h_p1 h_4015 (by decide) (by decide) (by decide) (by decide)
        have q_v_4017 : v_4017.toInt = p1.toInt + x_4010.toInt := by rw [v_4017_e]; exact tr_addX h_p1 h_4015 (by decide) (by decide)
        refine va_iald hx hb hK hP 0 0 rfl rfl (tr_in h_v_4017 (by decide) (by decide)) dX12_copies_21 ?_
        refine lv_topi (fun v_4018 v_4018_e => ?_)
        have g_v_4018 : v_4018 = ff (p1.toInt.toNat + x_4010.toInt.toNat) := v_4018_e.trans (congrArg ff (by show Int.toNat _ = _; omega))
        have gi_v_4018 := congrArg Int32.toInt g_v_4018
        refine va_iast hx hb hK hP hD hS 1 0 rfl rfl (tr_in h_v_4016 (by decide) (by decide)) dX12_copies_22 (fun H locs hP hD hS => ?_)
        obtain ⟨f_4019, f_4019_e, hP, hD⟩ : ∃ FX : Nat → Int32, FX = (upd f_4011 (v_4016 : Int32).toNatClampNeg v_4018) ∧ va_P D vwCl [(fa, .inl (g 0, 1544, .inl ff)), (ta, .inl (g 0, 193, .inl FX))] H ∧ va_D A [(fa, .inl (g 0, 1544, .inl ff)), (ta, .inl (g 0, 193, .inl FX))] := ⟨_, rfl, hP, hD⟩
        have hP : va_P D vwCl [(fa, .inl (g 0, 1544, .inl ff)), (ta, .inl (g 0, 193, .inl f_4019))] H := hP
        have hD : va_D A [(fa, .inl (g 0, 1544, .inl ff)), (ta, .inl (g 0, 193, .inl f_4019))] := hD
        obtain ⟨v_4020, v_4020_e⟩ : ∃ y : Int32, y = x_4010 + Int32.ofInt 1 := ⟨_, rfl⟩
        have h_v_4020 : 1 ≤ (v_4020 : Int32).toInt ∧ (v_4020 : Int32).toInt ≤ 193 := by rw [v_4020_e]; exact tr_add h_4015 (⟨by decide, by decide⟩ : 1 ≤ (Int32.ofInt 1 : Int32).toInt ∧ (Int32.ofInt 1 : Int32).toInt ≤ 1) (by decide) (by decide) (by decide) (by decide)
        have q_v_4020 : v_4020.toInt = x_4010.toInt + 1 := by rw [v_4020_e]; exact tr_addE h_4015 (⟨by decide, by decide⟩ : 1 ≤ (Int32.ofInt 1 : Int32).toInt ∧ (Int32.ofInt 1 : Int32).toInt ≤ 1) (by decide) (by decide)
        refine lv_iinc (v := v_4020) (lv' := [(4, .int v_4020), (0, .ref fa), (1, .int p1), (2, .ref ta), (3, .int p3)]) hx hb dX12_copies_23 hl (k := 0) rfl v_4020_e.symm (by decide) rfl (fun ls hl => ?_)
        refine lv_goto (tgt := 3) hx hb dX12_copies_26 (by decide) ?_
        exact ih_4012 v_4020 f_4019 H _ ls (tr_w h_v_4020 (by decide) (by decide)) (by rw [f_4019_e, show v_4020.toInt.toNat = _ + 1 from (by omega : _ = x_4010.toInt.toNat + 1)]; exact va_cpy_step hr4012_0 (by show Int.toNat _ = _; omega) g_v_4018) (by omega) (hP.sub [0, 1] rfl) (hD.sub [0, 1] (by decide) rfl) hS (lv_sub hl [0, 1, 2, 3, 4] rfl)
  exact lp_4012 194 0 tf s.heap _ ls (⟨by decide, by decide⟩ : 0 ≤ (0 : Int32).toInt ∧ (0 : Int32).toInt ≤ 193) (va_cpy_zero _ _ _ _) (by decide) (hP.sub [0, 1] rfl) (hD.sub [0, 1] (by decide) rfl) hS (lv_sub hl [0, 1, 2, 3, 4] rfl)
