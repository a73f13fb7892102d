theorem qw_604 : Cond.fieldLink RX12 17 "ChanceRingsModel" "spare" "[I" ∈ wsL_law := tseg_5 (by decide +kernel) (List.mem_of_getElem? (i := 129) (by decide +kernel))
theorem dX12_copies_0 : decode cX12_copies 0 = .ok (.iconst 0, 1) := by decide +kernel
theorem dX12_copies_1 : decode cX12_copies 1 = .ok (.istore 4, 2) := by decide +kernel
theorem dX12_copies_3 : decode cX12_copies 3 = .ok (.iload 4, 2) := by decide +kernel
theorem dX12_copies_5 : decode cX12_copies 5 = .ok (.sipush 193, 3) := by decide +kernel
theorem dX12_copies_8 : decode cX12_copies 8 = .ok (.if_icmp .ge 21, 3) := by decide +kernel
theorem dX12_copies_11 : decode cX12_copies 11 = .ok (.aload_n 2, 1) := by decide +kernel
theorem dX12_copies_12 : decode cX12_copies 12 = .ok (.iload_n 3, 1) := by decide +kernel
theorem dX12_copies_13 : decode cX12_copies 13 = .ok (.iload 4, 2) := by decide +kernel
theorem dX12_copies_15 : decode cX12_copies 15 = .ok (.iadd, 1) := by decide +kernel
theorem dX12_copies_16 : decode cX12_copies 16 = .ok (.aload_n 0, 1) := by decide +kernel
theorem dX12_copies_17 : decode cX12_copies 17 = .ok (.iload_n 1, 1) := by decide +kernel
theorem dX12_copies_18 : decode cX12_copies 18 = .ok (.iload 4, 2) := by decide +kernel
theorem dX12_copies_20 : decode cX12_copies 20 = .ok (.iadd, 1) := by decide +kernel
theorem dX12_copies_21 : decode cX12_copies 21 = .ok (.iaload, 1) := by decide +kernel
theorem dX12_copies_22 : decode cX12_copies 22 = .ok (.iastore, 1) := by decide +kernel
theorem dX12_copies_23 : decode cX12_copies 23 = .ok (.iinc 4 1, 3) := by decide +kernel
theorem dX12_copies_26 : decode cX12_copies 26 = .ok (.goto (-23), 3) := by decide +kernel
theorem dX12_copies_29 : decode cX12_copies 29 = .ok (.return_, 1) := by decide +kernel
theorem dX12_manyOf_0 : decode cX12_manyOf 0 = .ok (.iconst 0, 1) := by decide +kernel
theorem dX12_manyOf_1 : decode cX12_manyOf 1 = .ok (.istore_n 3, 1) := by decide +kernel
theorem dX12_manyOf_2 : decode cX12_manyOf 2 = .ok (.iconst 0, 1) := by decide +kernel
theorem dX12_manyOf_3 : decode cX12_manyOf 3 = .ok (.istore 4, 2) := by decide +kernel
theorem dX12_manyOf_5 : decode cX12_manyOf 5 = .ok (.iload 4, 2) := by decide +kernel
theorem dX12_manyOf_7 : decode cX12_manyOf 7 = .ok (.aload_n 1, 1) := by decide +kernel
theorem dX12_manyOf_8 : decode cX12_manyOf 8 = .ok (.iconst 0, 1) := by decide +kernel
theorem dX12_manyOf_9 : decode cX12_manyOf 9 = .ok (.iaload, 1) := by decide +kernel
theorem dX12_manyOf_10 : decode cX12_manyOf 10 = .ok (.if_icmp .ge 27, 3) := by decide +kernel
theorem dX12_manyOf_13 : decode cX12_manyOf 13 = .ok (.iload_n 3, 1) := by decide +kernel
theorem dX12_manyOf_14 : decode cX12_manyOf 14 = .ok (.aload_n 1, 1) := by decide +kernel
theorem dX12_manyOf_15 : decode cX12_manyOf 15 = .ok (.iconst 1, 1) := by decide +kernel
theorem dX12_manyOf_16 : decode cX12_manyOf 16 = .ok (.iload 4, 2) := by decide +kernel
theorem dX12_manyOf_18 : decode cX12_manyOf 18 = .ok (.iadd, 1) := by decide +kernel
theorem dX12_manyOf_19 : decode cX12_manyOf 19 = .ok (.iaload, 1) := by decide +kernel
theorem dX12_manyOf_20 : decode cX12_manyOf 20 = .ok (.iload_n 2, 1) := by decide +kernel
theorem dX12_manyOf_21 : decode cX12_manyOf 21 = .ok (.if_icmp .ne 7, 3) := by decide +kernel
theorem dX12_manyOf_24 : decode cX12_manyOf 24 = .ok (.iconst 1, 1) := by decide +kernel
theorem dX12_manyOf_25 : decode cX12_manyOf 25 = .ok (.goto 4, 3) := by decide +kernel
theorem dX12_manyOf_28 : decode cX12_manyOf 28 = .ok (.iconst 0, 1) := by decide +kernel
theorem dX12_manyOf_29 : decode cX12_manyOf 29 = .ok (.iadd, 1) := by decide +kernel
theorem dX12_manyOf_30 : decode cX12_manyOf 30 = .ok (.istore_n 3, 1) := by decide +kernel
theorem dX12_manyOf_31 : decode cX12_manyOf 31 = .ok (.iinc 4 1, 3) := by decide +kernel
theorem dX12_manyOf_34 : decode cX12_manyOf 34 = .ok (.goto (-29), 3) := by decide +kernel
theorem dX12_manyOf_37 : decode cX12_manyOf 37 = .ok (.iload_n 3, 1) := by decide +kernel
theorem dX12_manyOf_38 : decode cX12_manyOf 38 = .ok (.ireturn, 1) := by decide +kernel
theorem dX12_named_0 : decode cX12_named 0 = .ok (.iconst 0, 1) := by decide +kernel
theorem dX12_named_1 : decode cX12_named 1 = .ok (.istore_n 1, 1) := by decide +kernel
theorem dX12_named_2 : decode cX12_named 2 = .ok (.iload_n 1, 1) := by decide +kernel
theorem dX12_named_3 : decode cX12_named 3 = .ok (.aload_n 0, 1) := by decide +kernel
theorem dX12_named_4 : decode cX12_named 4 = .ok (.getfield 17, 3) := by decide +kernel
theorem dX12_named_7 : decode cX12_named 7 = .ok (.iconst 0, 1) := by decide +kernel
theorem dX12_named_8 : decode cX12_named 8 = .ok (.iaload, 1) := by decide +kernel
theorem dX12_named_9 : decode cX12_named 9 = .ok (.if_icmp .ge 76, 3) := by decide +kernel
theorem dX12_named_12 : decode cX12_named 12 = .ok (.iconst 1, 1) := by decide +kernel
theorem dX12_named_13 : decode cX12_named 13 = .ok (.istore_n 2, 1) := by decide +kernel
theorem dX12_named_14 : decode cX12_named 14 = .ok (.iconst 0, 1) := by decide +kernel
theorem dX12_named_15 : decode cX12_named 15 = .ok (.istore_n 3, 1) := by decide +kernel
theorem dX12_named_16 : decode cX12_named 16 = .ok (.iload_n 3, 1) := by decide +kernel
theorem dX12_named_17 : decode cX12_named 17 = .ok (.bipush 6, 2) := by decide +kernel
theorem dX12_named_19 : decode cX12_named 19 = .ok (.if_icmp .ge 54, 3) := by decide +kernel
theorem dX12_named_22 : decode cX12_named 22 = .ok (.iload_n 2, 1) := by decide +kernel
theorem dX12_named_23 : decode cX12_named 23 = .ok (.ifCond .eq 50, 3) := by decide +kernel
theorem dX12_named_26 : decode cX12_named 26 = .ok (.aload_n 0, 1) := by decide +kernel
theorem dX12_named_27 : decode cX12_named 27 = .ok (.getfield 17, 3) := by decide +kernel
theorem dX12_named_30 : decode cX12_named 30 = .ok (.bipush 121, 2) := by decide +kernel
theorem dX12_named_32 : decode cX12_named 32 = .ok (.bipush 6, 2) := by decide +kernel
theorem dX12_named_34 : decode cX12_named 34 = .ok (.iload_n 1, 1) := by decide +kernel
theorem dX12_named_35 : decode cX12_named 35 = .ok (.imul, 1) := by decide +kernel
theorem dX12_named_36 : decode cX12_named 36 = .ok (.iadd, 1) := by decide +kernel
theorem dX12_named_37 : decode cX12_named 37 = .ok (.iload_n 3, 1) := by decide +kernel
theorem dX12_named_38 : decode cX12_named 38 = .ok (.iadd, 1) := by decide +kernel
theorem dX12_named_39 : decode cX12_named 39 = .ok (.iaload, 1) := by decide +kernel
theorem dX12_named_40 : decode cX12_named 40 = .ok (.iload_n 3, 1) := by decide +kernel
theorem dX12_named_41 : decode cX12_named 41 = .ok (.aload_n 0, 1) := by decide +kernel
theorem dX12_named_42 : decode cX12_named 42 = .ok (.getfield 129, 3) := by decide +kernel
theorem dX12_named_45 : decode cX12_named 45 = .ok (.if_icmp .ge 12, 3) := by decide +kernel
theorem dX12_named_48 : decode cX12_named 48 = .ok (.aload_n 0, 1) := by decide +kernel
theorem dX12_named_49 : decode cX12_named 49 = .ok (.getfield 37, 3) := by decide +kernel
theorem dX12_named_52 : decode cX12_named 52 = .ok (.iload_n 3, 1) := by decide +kernel
theorem dX12_named_53 : decode cX12_named 53 = .ok (.baload, 1) := by decide +kernel
theorem dX12_named_54 : decode cX12_named 54 = .ok (.goto 4, 3) := by decide +kernel
theorem dX12_named_57 : decode cX12_named 57 = .ok (.iconst 0, 1) := by decide +kernel
theorem dX12_named_58 : decode cX12_named 58 = .ok (.if_icmp .ne 7, 3) := by decide +kernel
theorem dX12_named_61 : decode cX12_named 61 = .ok (.iconst 1, 1) := by decide +kernel
theorem dX12_named_62 : decode cX12_named 62 = .ok (.goto 4, 3) := by decide +kernel
theorem dX12_named_65 : decode cX12_named 65 = .ok (.iconst 0, 1) := by decide +kernel
theorem dX12_named_66 : decode cX12_named 66 = .ok (.istore_n 2, 1) := by decide +kernel
theorem dX12_named_67 : decode cX12_named 67 = .ok (.iinc 3 1, 3) := by decide +kernel
theorem dX12_named_70 : decode cX12_named 70 = .ok (.goto (-54), 3) := by decide +kernel
theorem dX12_named_73 : decode cX12_named 73 = .ok (.iload_n 2, 1) := by decide +kernel
theorem dX12_named_74 : decode cX12_named 74 = .ok (.ifCond .eq 5, 3) := by decide +kernel
theorem dX12_named_77 : decode cX12_named 77 = .ok (.iload_n 1, 1) := by decide +kernel
theorem dX12_named_78 : decode cX12_named 78 = .ok (.ireturn, 1) := by decide +kernel
theorem dX12_named_79 : decode cX12_named 79 = .ok (.iinc 1 1, 3) := by decide +kernel
theorem dX12_named_82 : decode cX12_named 82 = .ok (.goto (-80), 3) := by decide +kernel
theorem dX12_named_85 : decode cX12_named 85 = .ok (.iconst (-1), 1) := by decide +kernel
theorem dX12_named_86 : decode cX12_named 86 = .ok (.ireturn, 1) := by decide +kernel
theorem dX12_weights_0 : decode cX12_weights 0 = .ok (.iconst 0, 1) := by decide +kernel
theorem dX12_weights_1 : decode cX12_weights 1 = .ok (.istore_n 2, 1) := by decide +kernel
theorem dX12_weights_2 : decode cX12_weights 2 = .ok (.iconst 0, 1) := by decide +kernel
theorem dX12_weights_3 : decode cX12_weights 3 = .ok (.istore_n 3, 1) := by decide +kernel
theorem dX12_weights_4 : decode cX12_weights 4 = .ok (.iload_n 3, 1) := by decide +kernel
theorem dX12_weights_5 : decode cX12_weights 5 = .ok (.aload_n 0, 1) := by decide +kernel
theorem dX12_weights_6 : decode cX12_weights 6 = .ok (.bipush 25, 2) := by decide +kernel
theorem dX12_weights_8 : decode cX12_weights 8 = .ok (.iload_n 1, 1) := by decide +kernel
theorem dX12_weights_9 : decode cX12_weights 9 = .ok (.iadd, 1) := by decide +kernel
theorem dX12_weights_10 : decode cX12_weights 10 = .ok (.iaload, 1) := by decide +kernel
theorem dX12_weights_11 : decode cX12_weights 11 = .ok (.if_icmp .ge 22, 3) := by decide +kernel
theorem dX12_weights_14 : decode cX12_weights 14 = .ok (.iload_n 2, 1) := by decide +kernel
theorem dX12_weights_15 : decode cX12_weights 15 = .ok (.aload_n 0, 1) := by decide +kernel
theorem dX12_weights_16 : decode cX12_weights 16 = .ok (.bipush 73, 2) := by decide +kernel
theorem dX12_weights_18 : decode cX12_weights 18 = .ok (.iconst 3, 1) := by decide +kernel
theorem dX12_weights_19 : decode cX12_weights 19 = .ok (.iload_n 1, 1) := by decide +kernel
theorem dX12_weights_20 : decode cX12_weights 20 = .ok (.imul, 1) := by decide +kernel
theorem dX12_weights_21 : decode cX12_weights 21 = .ok (.iadd, 1) := by decide +kernel
theorem dX12_weights_22 : decode cX12_weights 22 = .ok (.iload_n 3, 1) := by decide +kernel
theorem dX12_weights_23 : decode cX12_weights 23 = .ok (.iadd, 1) := by decide +kernel
theorem dX12_weights_24 : decode cX12_weights 24 = .ok (.iaload, 1) := by decide +kernel
theorem dX12_weights_25 : decode cX12_weights 25 = .ok (.iadd, 1) := by decide +kernel
theorem dX12_weights_26 : decode cX12_weights 26 = .ok (.istore_n 2, 1) := by decide +kernel
theorem dX12_weights_27 : decode cX12_weights 27 = .ok (.iinc 3 1, 3) := by decide +kernel
theorem dX12_weights_30 : decode cX12_weights 30 = .ok (.goto (-26), 3) := by decide +kernel
theorem dX12_weights_33 : decode cX12_weights 33 = .ok (.iload_n 2, 1) := by decide +kernel
theorem dX12_weights_34 : decode cX12_weights 34 = .ok (.ireturn, 1) := by decide +kernel
theorem tk_25 : (25 : Int32).toInt = 25 := by decide
theorem tk_73 : (73 : Int32).toInt = 73 := by decide
theorem tk_121 : (121 : Int32).toInt = 121 := by decide
theorem tk_193 : (193 : Int32).toInt = 193 := by decide
set_option maxHeartbeats 4000000 in
set_option maxRecDepth 100000 in
theorem c_X12_named (l : Launch) (D : va_G) (g : Nat → ClassId) (mm : Nat) (i_thrown : Int32) (m_s : Nat) (m_spare : Nat) (m_kept : Nat) (m_undone : Nat) (m_triedWay : Nat) (m_isKept : Nat) (i_undoMany : Int32) (m_tape : Nat) (i_length : Int32) (i_size : Int32) (i_p : Int32) (i_at : Int32) (i_token : Int32) (i_number : Int32) (i_letterMany : Int32) (i_fault : Int32) (i_faultAt : Int32) (m_letters : Nat) (i_isKnown : Int32) (m_choice : Nat) (m_row : Nat) (m_up : Nat) (m_low : Nat) (m_m : Nat) (m_bestUp : Nat) (m_bestLow : Nat) (m_replyUp : Nat) (m_replyLow : Nat) (m_worthUp : Nat) (m_worthLow : Nat) (m_bestWay : Nat) (i_seed : Int32) (m_told : Nat) (i_toldMany : Int32) (spf : Nat → Int32) (lf : Nat → Int32) (h_i_undoMany : 0 ≤ (i_undoMany : Int32).toInt ∧ (i_undoMany : Int32).toInt ≤ 8) (h_i_length : 0 ≤ (i_length : Int32).toInt ∧ (i_length : Int32).toInt ≤ 440) (h_i_size : 0 ≤ (i_size : Int32).toInt ∧ (i_size : Int32).toInt ≤ 440) (h_i_p : 0 ≤ (i_p : Int32).toInt ∧ (i_p : Int32).toInt ≤ 440) (h_i_at : 0 ≤ (i_at : Int32).toInt ∧ (i_at : Int32).toInt ≤ 440) (h_i_token : 0 ≤ (i_token : Int32).toInt ∧ (i_token : Int32).toInt ≤ 4) (h_i_number : 0 ≤ (i_number : Int32).toInt ∧ (i_number : Int32).toInt ≤ 814) (h_i_letterMany : (-440) ≤ (i_letterMany : Int32).toInt ∧ (i_letterMany : Int32).toInt ≤ 440) (h_i_isKnown : 0 ≤ (i_isKnown : Int32).toInt ∧ (i_isKnown : Int32).toInt ≤ 1) (h_i_toldMany : 0 ≤ (i_toldMany : Int32).toInt ∧ (i_toldMany : Int32).toInt ≤ 900) (hG : GR spf) : Met l yX12_named (.code yX12_named cX12_named 4 (some .int) :: wsL_law) ({ frames := 0, cells := 0, slots := 0, locals := 0 }) (va_Pc [.ref mm] (fun U => va_P D vwCl [(mm, .inr (12, (.int i_thrown :: .ref m_s :: .ref m_spare :: .ref m_kept :: .ref m_undone :: .ref m_triedWay :: .ref m_isKept :: .int i_undoMany :: .ref m_tape :: .int i_length :: .int i_size :: .int i_p :: .int i_at :: .int i_token :: .int i_number :: .int i_letterMany :: .int i_fault :: .int i_faultAt :: .ref m_letters :: .int i_isKnown :: .ref m_choice :: .ref m_row :: .ref m_up :: .ref m_low :: .ref m_m :: .ref m_bestUp :: .ref m_bestLow :: .ref m_replyUp :: .ref m_replyLow :: .ref m_worthUp :: .ref m_worthLow :: .ref m_bestWay :: .int i_seed :: .ref m_told :: .int i_toldMany :: []))), (m_spare, .inl (g 0, 193, .inl spf)), (m_letters, .inl (g 2, 6, .inl lf))] U.heap ∧ va_K D vwCl (TY g) U)) (vp_Si (fun r => ((-1) ≤ (r : Int32).toInt ∧ (r : Int32).toInt ≤ 11) ∧ (Hide (0 ≤ (r : Int32).toInt → (r : Int32).toInt < (spf 0).toInt)))) 0 0 (fun _ => False) := by
  refine Met.ofW (cc := cX12_named) (maxL := 4) (ret := (some .int)) (by decide) rfl ?_
  intro p e s m args below meth c s₁ B hml hv
  obtain ⟨ha, hP, hK⟩ := hv
  have hx := B.exec
  have hb := B.bytes
  have hr := B.returns
  have hts0 := atoms_spec (ws := (.code yX12_named cX12_named 4 (some .int) :: wsL_law)) B.pre
  have hts : ∀ w ∈ wsL_law, w.before args s = true := fun w h => hts0 w (List.mem_cons_of_mem _ h)
  have hown : s.vm.findClass RX12 = some m.cls := findClass_of_methodNamed B.named
  have hlocks := B.notSynchronized
  have hP : va_P D vwCl [(mm, .inr (12, (.int i_thrown :: .ref m_s :: .ref m_spare :: .ref m_kept :: .ref m_undone :: .ref m_triedWay :: .ref m_isKept :: .int i_undoMany :: .ref m_tape :: .int i_length :: .int i_size :: .int i_p :: .int i_at :: .int i_token :: .int i_number :: .int i_letterMany :: .int i_fault :: .int i_faultAt :: .ref m_letters :: .int i_isKnown :: .ref m_choice :: .ref m_row :: .ref m_up :: .ref m_low :: .ref m_m :: .ref m_bestUp :: .ref m_bestLow :: .ref m_replyUp :: .ref m_replyLow :: .ref m_worthUp :: .ref m_worthLow :: .ref m_bestWay :: .int i_seed :: .ref m_told :: .int i_toldMany :: []))), (m_spare, .inl (g 0, 193, .inl spf)), (m_letters, .inl (g 2, 6, .inl lf))] s.heap := hP
  refine W.eq (g2 := entryFrame m ([.ref mm] : List Value).toArray 4) (by rw [ha]) ?_
  have hl := lv_entry ([.ref mm]) (n := 4) (Nat.le_of_ble_eq_true rfl)
  rw [lg_entry_eq]
  generalize (lg_sl ([.ref mm]) ++ List.replicate (4 - (lg_sl ([.ref mm])).length) Slot.unset).toArray = ls at hl ⊢
  have hl : lv_has ls 4 [(0, .ref mm)] := hl
  refine lv_iconst (v := 0) hx hb dX12_named_0 (by decide) ?_
  refine lv_istore_n (lv' := [(1, .int 0), (0, .ref mm)]) hx hb dX12_named_1 rfl hl (by decide) rfl (fun ls hl => ?_)
  have lp_69076 : ∀ (n_69076 : Nat) (x_69075 : Int32) (ls : Array Slot), (0 ≤ (x_69075 : Int32).toInt ∧ (x_69075 : Int32).toInt ≤ 12) → (12 - x_69075.toInt < (n_69076 : Int)) → lv_has ls 4 [(1, .int x_69075), (0, .ref mm)] → W p l e (headSpec (.code yX12_named cX12_named 4 (some .int) :: wsL_law) ({ frames := 0, cells := 0, slots := 0, locals := 0 })).room s m args below meth c s.heap [] 0 0 (MQ below (vp_Si (fun r => ((-1) ≤ (r : Int32).toInt ∧ (r : Int32).toInt ≤ 11) ∧ (Hide (0 ≤ (r : Int32).toInt → (r : Int32).toInt < (spf 0).toInt)))) args s 0 0 (fun _ => False)) (F0 m 2 ls []) := by
    intro n_69076
    induction n_69076 with
    | zero =>
      intro x_69075 ls h_x_69075 hm_69076 hl
      exfalso; omega
    | succ n_69076 ih_69076 =>
      intro x_69075 ls h_x_69075 hm_69076 hl
      refine lv_iload_n hx hb dX12_named_2 rfl (lv_at hl 0 rfl) ?_
      refine lv_aload_n hx hb dX12_named_3 rfl (lv_at hl 1 rfl) ?_
      refine va_get (D := D) (ci := 12) (v := .ref m_spare) (C := RX12) (T := TX12) (N := 35) hx hb hts inlX12 hown hK hP 0 rfl rfl 2 (by decide) (hts (Cond.fieldLink RX12 17 "ChanceRingsModel" "spare" "[I") qw_604) (fun _ h9 => h9) rfl dX12_named_4 ?_
      refine lv_iconst (v := 0) hx hb dX12_named_7 (by decide) ?_
      refine va_iald hx hb hK hP 1 0 rfl rfl (tz_in (by decide +kernel)) dX12_named_8 ?_
      refine lv_topi (fun v_69077 v_69077_e => ?_)
      have h_v_69077 : 0 ≤ (v_69077 : Int32).toInt ∧ (v_69077 : Int32).toInt ≤ 12 := by rw [v_69077_e]; exact gr_nodes hG (⟨by decide, by decide⟩ : 0 ≤ (0 : Int32).toInt ∧ (0 : Int32).toInt ≤ 0)
      have g_v_69077 : v_69077 = spf (0) := v_69077_e.trans (congrArg spf rfl)
      have gi_v_69077 := congrArg Int32.toInt g_v_69077
      refine lv_icmp_ge (tgt := 85) hx hb dX12_named_9 (by decide) (fun c_69078 => ?_) (fun c_69078 => ?_)
      · skip
        have c_69078_i := Int32.le_iff_toInt_le.mp c_69078
        refine lv_iconst (v := (-1)) hx hb dX12_named_85 (by decide) ?_
        exact W.iret (v := (-1)) hx hb hr (fun t ht hW => ⟨(-1), rfl, ⟨(⟨by decide, by decide⟩ : (-1) ≤ ((-1) : Int32).toInt ∧ ((-1) : Int32).toInt ≤ 11), (fun h9 => by have z1 := tk_m1; omega)⟩, ht⟩) (fun _ h => nomatch h) dX12_named_86
      · skip
        have c_69078_i := Int32.lt_iff_toInt_lt.mp (Int32.not_le.mp c_69078)
        have c_69078_i := Int32.lt_iff_toInt_lt.mp (Int32.not_le.mp c_69078)
        have h_69079 : 0 ≤ (x_69075 : Int32).toInt ∧ (x_69075 : Int32).toInt ≤ 11 := by have q1 := h_x_69075; have q2 := h_v_69077; omega
        have h_69080 : 1 ≤ (v_69077 : Int32).toInt ∧ (v_69077 : Int32).toInt ≤ 12 := by have q1 := h_x_69075; have q2 := h_v_69077; omega
        refine lv_iconst (v := 1) hx hb dX12_named_12 (by decide) ?_
        refine lv_istore_n (lv' := [(2, .int 1), (1, .int x_69075), (0, .ref mm)]) hx hb dX12_named_13 rfl hl (by decide) rfl (fun ls hl => ?_)
        refine lv_iconst (v := 0) hx hb dX12_named_14 (by decide) ?_
        refine lv_istore_n (lv' := [(3, .int 0), (2, .int 1), (1, .int x_69075), (0, .ref mm)]) hx hb dX12_named_15 rfl hl (by decide) rfl (fun ls hl => ?_)
        have lp_69192 : ∀ (n_69192 : Nat) (x_69190 : Int32) (x_69191 : Int32) (ls : Array Slot), (0 ≤ (x_69190 : Int32).toInt ∧ (x_69190 : Int32).toInt ≤ 7) → (0 ≤ (x_69191 : Int32).toInt ∧ (x_69191 : Int32).toInt ≤ 1) → (7 - x_69190.toInt < (n_69192 : Int)) → lv_has ls 4 [(3, .int x_69190), (2, .int x_69191), (1, .int x_69075), (0, .ref mm)] → W p l e (headSpec (.code yX12_named cX12_named 4 (some .int) :: wsL_law) ({ frames := 0, cells := 0, slots := 0, locals := 0 })).room s m args below meth c s.heap [] 0 0 (MQ below (vp_Si (fun r => ((-1) ≤ (r : Int32).toInt ∧ (r : Int32).toInt ≤ 11) ∧ (Hide (0 ≤ (r : Int32).toInt → (r : Int32).toInt < (spf 0).toInt)))) args s 0 0 (fun _ => False)) (F0 m 16 ls []) := by
          intro n_69192
          induction n_69192 with
          | zero =>
            intro x_69190 x_69191 ls h_x_69190 h_x_69191 hm_69192 hl
            exfalso; omega
          | succ n_69192 ih_69192 =>
            intro x_69190 x_69191 ls h_x_69190 h_x_69191 hm_69192 hl
            refine lv_iload_n hx hb dX12_named_16 rfl (lv_at hl 0 rfl) ?_
            refine lv_bipush (v := 6) hx hb dX12_named_17 (by decide) ?_
            refine lv_icmp_ge (tgt := 73) hx hb dX12_named_19 (by decide) (fun c_69193 => ?_) (fun c_69193 => ?_)
            · skip
              have kk_6 := tk_6
              have c_69193_i := Int32.le_iff_toInt_le.mp c_69193
              have c_69193_i := Int32.le_iff_toInt_le.mp c_69193
              have h_69194 : 6 ≤ (x_69190 : Int32).toInt ∧ (x_69190 : Int32).toInt ≤ 7 := by have q1 := h_x_69190; have q2 := (⟨by decide, by decide⟩ : 6 ≤ (6 : Int32).toInt ∧ (6 : Int32).toInt ≤ 6); omega
              refine lv_iload_n hx hb dX12_named_73 rfl (lv_at hl 1 rfl) ?_
              refine lv_if_eq (tgt := 79) hx hb dX12_named_74 (by decide) (fun c_69196 => ?_) (fun c_69196 => ?_)
              · skip
                have kk_0 := tk_0
                have c_69196_i := c_69196
                have c_69196_i : (x_69191 : Int32).toInt = (0 : Int32).toInt := congrArg Int32.toInt c_69196
                have c_69196_i := c_69196
                have c_69196_i : (x_69191 : Int32).toInt = (0 : Int32).toInt := congrArg Int32.toInt c_69196
                have h_69197 : 0 ≤ (x_69191 : Int32).toInt ∧ (x_69191 : Int32).toInt ≤ 0 := by have q1 := h_x_69191; have q2 := (⟨by decide, by decide⟩ : 0 ≤ (0 : Int32).toInt ∧ (0 : Int32).toInt ≤ 0); omega
                obtain ⟨v_69199, v_69199_e⟩ : ∃ y : Int32, y = x_69075 + Int32.ofInt 1 := ⟨_, rfl⟩
                have h_v_69199 : 1 ≤ (v_69199 : Int32).toInt ∧ (v_69199 : Int32).toInt ≤ 12 := by rw [v_69199_e]; exact tr_add h_69079 (⟨by decide, by decide⟩ : 1 ≤ (Int32.ofInt 1 : Int32).toInt ∧ (Int32.ofInt 1 : Int32).toInt ≤ 1) (by decide) (by decide) (by decide) (by decide)
                have q_v_69199 : v_69199.toInt = x_69075.toInt + 1 := by rw [v_69199_e]; exact tr_addE h_69079 (⟨by decide, by decide⟩ : 1 ≤ (Int32.ofInt 1 : Int32).toInt ∧ (Int32.ofInt 1 : Int32).toInt ≤ 1) (by decide) (by decide)
                refine lv_iinc (v := v_69199) (lv' := [(1, .int v_69199), (3, .int x_69190), (2, .int x_69191), (0, .ref mm)]) hx hb dX12_named_79 hl (k := 2) rfl v_69199_e.symm (by decide) rfl (fun ls hl => ?_)
                refine lv_goto (tgt := 2) hx hb dX12_named_82 (by decide) ?_
                exact ih_69076 v_69199 ls (tr_w h_v_69199 (by decide) (by decide)) (by omega) (lv_sub hl [0, 3] rfl)
              · skip
                have kk_0 := tk_0
                have c_69196_i := c_69196
                have c_69196_i : ¬ (x_69191 : Int32).toInt = (0 : Int32).toInt := (fun q => c_69196 (Int32.toInt_inj.mp q))
                have c_69196_i := c_69196
                have c_69196_i : ¬ (x_69191 : Int32).toInt = (0 : Int32).toInt := (fun q => c_69196 (Int32.toInt_inj.mp q))
                have h_69198 : 1 ≤ (x_69191 : Int32).toInt ∧ (x_69191 : Int32).toInt ≤ 1 := by have q1 := h_x_69191; have q2 := (⟨by decide, by decide⟩ : 0 ≤ (0 : Int32).toInt ∧ (0 : Int32).toInt ≤ 0); omega
                refine lv_iload_n hx hb dX12_named_77 rfl (lv_at hl 2 rfl) ?_
                exact W.iret (v := x_69075) hx hb hr (fun t ht hW => ⟨x_69075, rfl, ⟨(tr_w h_69079 (by decide) (by decide)), (fun _ => by have q8 := congrArg Int32.toInt g_v_69077; omega)⟩, ht⟩) (fun _ h => nomatch h) dX12_named_78
            · skip
              have kk_6 := tk_6
              have c_69193_i := Int32.lt_iff_toInt_lt.mp (Int32.not_le.mp c_69193)
              have c_69193_i := Int32.lt_iff_toInt_lt.mp (Int32.not_le.mp c_69193)
              have h_69195 : 0 ≤ (x_69190 : Int32).toInt ∧ (x_69190 : Int32).toInt ≤ 5 := by have q1 := h_x_69190; have q2 := (⟨by decide, by decide⟩ : 6 ≤ (6 : Int32).toInt ∧ (6 : Int32).toInt ≤ 6); omega
              refine lv_iload_n hx hb dX12_named_22 rfl (lv_at hl 1 rfl) ?_
              refine lv_if_eq (tgt := 73) hx hb dX12_named_23 (by decide) (fun c_69200 => ?_) (fun c_69200 => ?_)
              · skip
                have kk_0 := tk_0
                have c_69200_i := c_69200
                have c_69200_i : (x_69191 : Int32).toInt = (0 : Int32).toInt := congrArg Int32.toInt c_69200
                have c_69200_i := c_69200
                have c_69200_i : (x_69191 : Int32).toInt = (0 : Int32).toInt := congrArg Int32.toInt c_69200
                have h_69201 : 0 ≤ (x_69191 : Int32).toInt ∧ (x_69191 : Int32).toInt ≤ 0 := by have q1 := h_x_69191; have q2 := (⟨by decide, by decide⟩ : 0 ≤ (0 : Int32).toInt ∧ (0 : Int32).toInt ≤ 0); omega
                refine lv_iload_n hx hb dX12_named_73 rfl (lv_at hl 1 rfl) ?_
                refine lv_if_eq (tgt := 79) hx hb dX12_named_74 (by decide) (fun c_69203 => ?_) (fun h9 => by exfalso; have q1 := h_69201; have q2 := (⟨by decide, by decide⟩ : 0 ≤ (0 : Int32).toInt ∧ (0 : Int32).toInt ≤ 0); have h8 : ¬ (x_69191 : Int32).toInt = (0 : Int32).toInt := fun q => h9 (Int32.toInt_inj.mp q); omega)
                have c_69203_i := c_69203
                have c_69203_i : (x_69191 : Int32).toInt = (0 : Int32).toInt := congrArg Int32.toInt c_69203
                obtain ⟨v_69204, v_69204_e⟩ : ∃ y : Int32, y = x_69075 + Int32.ofInt 1 := ⟨_, rfl⟩
                have h_v_69204 : 1 ≤ (v_69204 : Int32).toInt ∧ (v_69204 : Int32).toInt ≤ 12 := by rw [v_69204_e]; exact tr_add h_69079 (⟨by decide, by decide⟩ : 1 ≤ (Int32.ofInt 1 : Int32).toInt ∧ (Int32.ofInt 1 : Int32).toInt ≤ 1) (by decide) (by decide) (by decide) (by decide)
                have q_v_69204 : v_69204.toInt = x_69075.toInt + 1 := by rw [v_69204_e]; exact tr_addE h_69079 (⟨by decide, by decide⟩ : 1 ≤ (Int32.ofInt 1 : Int32).toInt ∧ (Int32.ofInt 1 : Int32).toInt ≤ 1) (by decide) (by decide)
                refine lv_iinc (v := v_69204) (lv' := [(1, .int v_69204), (3, .int x_69190), (2, .int x_69191), (0, .ref mm)]) hx hb dX12_named_79 hl (k := 2) rfl v_69204_e.symm (by decide) rfl (fun ls hl => ?_)
                refine lv_goto (tgt := 2) hx hb dX12_named_82 (by decide) ?_
                exact ih_69076 v_69204 ls (tr_w h_v_69204 (by decide) (by decide)) (by omega) (lv_sub hl [0, 3] rfl)
              · skip
                have kk_0 := tk_0
                have c_69200_i := c_69200
                have c_69200_i : ¬ (x_69191 : Int32).toInt = (0 : Int32).toInt := (fun q => c_69200 (Int32.toInt_inj.mp q))
                have c_69200_i := c_69200
                have c_69200_i : ¬ (x_69191 : Int32).toInt = (0 : Int32).toInt := (fun q => c_69200 (Int32.toInt_inj.mp q))
                have h_69202 : 1 ≤ (x_69191 : Int32).toInt ∧ (x_69191 : Int32).toInt ≤ 1 := by have q1 := h_x_69191; have q2 := (⟨by decide, by decide⟩ : 0 ≤ (0 : Int32).toInt ∧ (0 : Int32).toInt ≤ 0); omega
                refine lv_aload_n hx hb dX12_named_26 rfl (lv_at hl 3 rfl) ?_
                refine va_get (D := D) (ci := 12) (v := .ref m_spare) (C := RX12) (T := TX12) (N := 35) hx hb hts inlX12 hown hK hP 0 rfl rfl 2 (by decide) (hts (Cond.fieldLink RX12 17 "ChanceRingsModel" "spare" "[I") qw_604) (fun _ h9 => h9) rfl dX12_named_27 ?_
                refine lv_bipush (v := 121) hx hb dX12_named_30 (by decide) ?_
                refine lv_bipush (v := 6) hx hb dX12_named_32 (by decide) ?_
                refine lv_iload_n hx hb dX12_named_34 rfl (lv_at hl 2 rfl) ?_
                refine lv_imul hx hb dX12_named_35 ?_
                refine lv_topi (fun v_69205 v_69205_e => ?_)
                have h_v_69205 : 0 ≤ (v_69205 : Int32).toInt ∧ (v_69205 : Int32).toInt ≤ 66 := by rw [v_69205_e]; exact tr_mul (⟨by decide, by decide⟩ : 6 ≤ (6 : Int32).toInt ∧ (6 : Int32).toInt ≤ 6) h_69079 (by decide) (by decide) (by decide) (by decide)
                have q_v_69205 : v_69205.toInt = 6 * x_69075.toInt := by rw [v_69205_e]; exact (tr_mulX (⟨by decide, by decide⟩ : 6 ≤ (6 : Int32).toInt ∧ (6 : Int32).toInt ≤ 6) h_69079 (by decide) (by decide)).trans (by rw [tk_6])
                refine lv_iadd hx hb dX12_named_36 ?_
                refine lv_topi (fun v_69206 v_69206_e => ?_)
                have h_v_69206 : 121 ≤ (v_69206 : Int32).toInt ∧ (v_69206 : Int32).toInt ≤ 187 := by rw [v_69206_e]; exact tr_add (⟨by decide, by decide⟩ : 121 ≤ (121 : Int32).toInt ∧ (121 : Int32).toInt ≤ 121) h_v_69205 (by decide) (by decide) (by decide) (by decide)
                have q_v_69206 : v_69206.toInt = 121 + v_69205.toInt := by rw [v_69206_e]; exact (tr_addX (⟨by decide, by decide⟩ : 121 ≤ (121 : Int32).toInt ∧ (121 : Int32).toInt ≤ 121) h_v_69205 (by decide) (by decide)).trans (by rw [tk_121])
                refine lv_iload_n hx hb dX12_named_37 rfl (lv_at hl 0 rfl) ?_
                refine lv_iadd hx hb dX12_named_38 ?_
                refine lv_topi (fun v_69207 v_69207_e => ?_)
                have h_v_69207 : 121 ≤ (v_69207 : Int32).toInt ∧ (v_69207 : Int32).toInt ≤ 192 := by rw [v_69207_e]; exact tr_add h_v_69206 h_69195 (by decide) (by decide) (by decide) (by decide)
                have q_v_69207 : v_69207.toInt = v_69206.toInt + x_69190.toInt := by rw [v_69207_e]; exact tr_addX h_v_69206 h_69195 (by decide) (by decide)
                refine va_iald hx hb hK hP 1 0 rfl rfl (tr_in h_v_69207 (by decide) (by decide)) dX12_named_39 ?_
                refine lv_topi (fun v_69208 v_69208_e => ?_)
                have g_v_69208 : v_69208 = spf (121 + 6 * x_69075.toInt.toNat + x_69190.toInt.toNat) := v_69208_e.trans (congrArg spf (by show Int.toNat _ = _; omega))
                have gi_v_69208 := congrArg Int32.toInt g_v_69208
                refine lv_iload_n hx hb dX12_named_40 rfl (lv_at hl 0 rfl) ?_
                refine lv_aload_n hx hb dX12_named_41 rfl (lv_at hl 3 rfl) ?_
                refine va_get (D := D) (ci := 12) (v := .int i_letterMany) (C := RX12) (T := TX12) (N := 35) hx hb hts inlX12 hown hK hP 0 rfl rfl 15 (by decide) (hts (Cond.fieldLink RX12 129 "ChanceRingsModel" "letterMany" "I") qw_597) (fun _ h9 => h9) rfl dX12_named_42 ?_
                refine lv_icmp_ge (tgt := 57) hx hb dX12_named_45 (by decide) (fun c_69209 => ?_) (fun c_69209 => ?_)
                · skip
                  have c_69209_i := Int32.le_iff_toInt_le.mp c_69209
                  have c_69209_i := Int32.le_iff_toInt_le.mp c_69209
                  have h_69210 : (-440) ≤ (i_letterMany : Int32).toInt ∧ (i_letterMany : Int32).toInt ≤ 5 := by have q1 := h_69195; have q2 := h_i_letterMany; omega
                  refine lv_iconst (v := 0) hx hb dX12_named_57 (by decide) ?_
                  refine lv_icmp_ne (tgt := 65) hx hb dX12_named_58 (by decide) (fun c_69212 => ?_) (fun c_69212 => ?_)
                  · skip
                    have c_69212_i := c_69212
                    have c_69212_i : ¬ (v_69208 : Int32).toInt = (0 : Int32).toInt := (fun q => c_69212 (Int32.toInt_inj.mp q))
                    refine lv_iconst (v := 0) hx hb dX12_named_65 (by decide) ?_
                    refine lv_istore_n (lv' := [(2, .int 0), (3, .int x_69190), (1, .int x_69075), (0, .ref mm)]) hx hb dX12_named_66 rfl hl (by decide) rfl (fun ls hl => ?_)
                    obtain ⟨v_69214, v_69214_e⟩ : ∃ y : Int32, y = x_69190 + Int32.ofInt 1 := ⟨_, rfl⟩
                    have h_v_69214 : 1 ≤ (v_69214 : Int32).toInt ∧ (v_69214 : Int32).toInt ≤ 6 := by rw [v_69214_e]; exact tr_add h_69195 (⟨by decide, by decide⟩ : 1 ≤ (Int32.ofInt 1 : Int32).toInt ∧ (Int32.ofInt 1 : Int32).toInt ≤ 1) (by decide) (by decide) (by decide) (by decide)
                    have q_v_69214 : v_69214.toInt = x_69190.toInt + 1 := by rw [v_69214_e]; exact tr_addE h_69195 (⟨by decide, by decide⟩ : 1 ≤ (Int32.ofInt 1 : Int32).toInt ∧ (Int32.ofInt 1 : Int32).toInt ≤ 1) (by decide) (by decide)
                    refine lv_iinc (v := v_69214) (lv' := [(3, .int v_69214), (2, .int 0), (1, .int x_69075), (0, .ref mm)]) hx hb dX12_named_67 hl (k := 1) rfl v_69214_e.symm (by decide) rfl (fun ls hl => ?_)
                    refine lv_goto (tgt := 16) hx hb dX12_named_70 (by decide) ?_
                    exact ih_69192 v_69214 0 ls (tr_w h_v_69214 (by decide) (by decide)) (⟨by decide, by decide⟩ : 0 ≤ (0 : Int32).toInt ∧ (0 : Int32).toInt ≤ 1) (by omega) (lv_sub hl [0, 1, 2, 3] rfl)
                  · skip
                    have c_69212_i := c_69212
                    have c_69212_i : (v_69208 : Int32).toInt = (0 : Int32).toInt := congrArg Int32.toInt c_69212
                    have h_69213 : 0 ≤ (v_69208 : Int32).toInt ∧ (v_69208 : Int32).toInt ≤ 0 := by rw [c_69212]; exact ⟨by decide, by decide⟩
                    refine lv_iconst (v := 1) hx hb dX12_named_61 (by decide) ?_
                    refine lv_goto (tgt := 66) hx hb dX12_named_62 (by decide) ?_
                    refine lv_istore_n (lv' := [(2, .int 1), (3, .int x_69190), (1, .int x_69075), (0, .ref mm)]) hx hb dX12_named_66 rfl hl (by decide) rfl (fun ls hl => ?_)
                    obtain ⟨v_69215, v_69215_e⟩ : ∃ y : Int32, y = x_69190 + Int32.ofInt 1 := ⟨_, rfl⟩
                    have h_v_69215 : 1 ≤ (v_69215 : Int32).toInt ∧ (v_69215 : Int32).toInt ≤ 6 := by rw [v_69215_e]; exact tr_add h_69195 (⟨by decide, by decide⟩ : 1 ≤ (Int32.ofInt 1 : Int32).toInt ∧ (Int32.ofInt 1 : Int32).toInt ≤ 1) (by decide) (by decide) (by decide) (by decide)
                    have q_v_69215 : v_69215.toInt = x_69190.toInt + 1 := by rw [v_69215_e]; exact tr_addE h_69195 (⟨by decide, by decide⟩ : 1 ≤ (Int32.ofInt 1 : Int32).toInt ∧ (Int32.ofInt 1 : Int32).toInt ≤ 1) (by decide) (by decide)
                    refine lv_iinc (v := v_69215) (lv' := [(3, .int v_69215), (2, .int 1), (1, .int x_69075), (0, .ref mm)]) hx hb dX12_named_67 hl (k := 1) rfl v_69215_e.symm (by decide) rfl (fun ls hl => ?_)
                    refine lv_goto (tgt := 16) hx hb dX12_named_70 (by decide) ?_
                    exact ih_69192 v_69215 1 ls (tr_w h_v_69215 (by decide) (by decide)) (⟨by decide, by decide⟩ : 0 ≤ (1 : Int32).toInt ∧ (1 : Int32).toInt ≤ 1) (by omega) (lv_sub hl [0, 1, 2, 3] rfl)
                · skip
                  have c_69209_i := Int32.lt_iff_toInt_lt.mp (Int32.not_le.mp c_69209)
                  have c_69209_i := Int32.lt_iff_toInt_lt.mp (Int32.not_le.mp c_69209)
                  have h_69211 : 1 ≤ (i_letterMany : Int32).toInt ∧ (i_letterMany : Int32).toInt ≤ 440 := by have q1 := h_69195; have q2 := h_i_letterMany; omega
                  refine lv_aload_n hx hb dX12_named_48 rfl (lv_at hl 3 rfl) ?_
                  refine va_get (D := D) (ci := 12) (v := .ref m_letters) (C := RX12) (T := TX12) (N := 35) hx hb hts inlX12 hown hK hP 0 rfl rfl 18 (by decide) (hts (Cond.fieldLink RX12 37 "ChanceRingsModel" "letters" "[B") qw_593) (fun _ h9 => h9) rfl dX12_named_49 ?_
                  refine lv_iload_n hx hb dX12_named_52 rfl (lv_at hl 0 rfl) ?_
                  refine va_bald hx hb hK hP 2 2 rfl rfl (tr_in h_69195 (by decide) (by decide)) dX12_named_53 ?_
                  refine lv_topi (fun v_69216 v_69216_e => ?_)
                  have g_v_69216 : v_69216 = lf (x_69190.toInt.toNat) := v_69216_e.trans (congrArg lf (by show Int.toNat _ = _; omega))
                  have gi_v_69216 := congrArg Int32.toInt g_v_69216
                  refine lv_goto (tgt := 58) hx hb dX12_named_54 (by decide) ?_
                  refine lv_icmp_ne (tgt := 65) hx hb dX12_named_58 (by decide) (fun c_69217 => ?_) (fun c_69217 => ?_)
                  · skip
                    have c_69217_i := c_69217
                    have c_69217_i : ¬ (v_69208 : Int32).toInt = (v_69216 : Int32).toInt := (fun q => c_69217 (Int32.toInt_inj.mp q))
                    refine lv_iconst (v := 0) hx hb dX12_named_65 (by decide) ?_
                    refine lv_istore_n (lv' := [(2, .int 0), (3, .int x_69190), (1, .int x_69075), (0, .ref mm)]) hx hb dX12_named_66 rfl hl (by decide) rfl (fun ls hl => ?_)
                    obtain ⟨v_69218, v_69218_e⟩ : ∃ y : Int32, y = x_69190 + Int32.ofInt 1 := ⟨_, rfl⟩
                    have h_v_69218 : 1 ≤ (v_69218 : Int32).toInt ∧ (v_69218 : Int32).toInt ≤ 6 := by rw [v_69218_e]; exact tr_add h_69195 (⟨by decide, by decide⟩ : 1 ≤ (Int32.ofInt 1 : Int32).toInt ∧ (Int32.ofInt 1 : Int32).toInt ≤ 1) (by decide) (by decide) (by decide) (by decide)
                    have q_v_69218 : v_69218.toInt = x_69190.toInt + 1 := by rw [v_69218_e]; exact tr_addE h_69195 (⟨by decide, by decide⟩ : 1 ≤ (Int32.ofInt 1 : Int32).toInt ∧ (Int32.ofInt 1 : Int32).toInt ≤ 1) (by decide) (by decide)
                    refine lv_iinc (v := v_69218) (lv' := [(3, .int v_69218), (2, .int 0), (1, .int x_69075), (0, .ref mm)]) hx hb dX12_named_67 hl (k := 1) rfl v_69218_e.symm (by decide) rfl (fun ls hl => ?_)
                    refine lv_goto (tgt := 16) hx hb dX12_named_70 (by decide) ?_
                    exact ih_69192 v_69218 0 ls (tr_w h_v_69218 (by decide) (by decide)) (⟨by decide, by decide⟩ : 0 ≤ (0 : Int32).toInt ∧ (0 : Int32).toInt ≤ 1) (by omega) (lv_sub hl [0, 1, 2, 3] rfl)
                  · skip
                    have c_69217_i := c_69217
                    have c_69217_i : (v_69208 : Int32).toInt = (v_69216 : Int32).toInt := congrArg Int32.toInt c_69217
                    refine lv_iconst (v := 1) hx hb dX12_named_61 (by decide) ?_
                    refine lv_goto (tgt := 66) hx hb dX12_named_62 (by decide) ?_
                    refine lv_istore_n (lv' := [(2, .int 1), (3, .int x_69190), (1, .int x_69075), (0, .ref mm)]) hx hb dX12_named_66 rfl hl (by decide) rfl (fun ls hl => ?_)
                    obtain ⟨v_69219, v_69219_e⟩ : ∃ y : Int32, y = x_69190 + Int32.ofInt 1 := ⟨_, rfl⟩
                    have h_v_69219 : 1 ≤ (v_69219 : Int32).toInt ∧ (v_69219 : Int32).toInt ≤ 6 := by rw [v_69219_e]; exact tr_add h_69195 (⟨by decide, by decide⟩ : 1 ≤ (Int32.ofInt 1 : Int32).toInt ∧ (Int32.ofInt 1 : Int32).toInt ≤ 1) (by decide) (by decide) (by decide) (by decide)
                    have q_v_69219 : v_69219.toInt = x_69190.toInt + 1 := by rw [v_69219_e]; exact tr_addE h_69195 (⟨by decide, by decide⟩ : 1 ≤ (Int32.ofInt 1 : Int32).toInt ∧ (Int32.ofInt 1 : Int32).toInt ≤ 1) (by decide) (by decide)
                    refine lv_iinc (v := v_69219) (lv' := [(3, .int v_69219), (2, .int 1), (1, .int x_69075), (0, .ref mm)]) hx hb dX12_named_67 hl (k := 1) rfl v_69219_e.symm (by decide) rfl (fun ls hl => ?_)
                    refine lv_goto (tgt := 16) hx hb dX12_named_70 (by decide) ?_
                    exact ih_69192 v_69219 1 ls (tr_w h_v_69219 (by decide) (by decide)) (⟨by decide, by decide⟩ : 0 ≤ (1 : Int32).toInt ∧ (1 : Int32).toInt ≤ 1) (by omega) (lv_sub hl [0, 1, 2, 3] rfl)
        exact lp_69192 8 0 1 ls (⟨by decide, by decide⟩ : 0 ≤ (0 : Int32).toInt ∧ (0 : Int32).toInt ≤ 7) (⟨by decide, by decide⟩ : 0 ≤ (1 : Int32).toInt ∧ (1 : Int32).toInt ≤ 1) (by decide) (lv_sub hl [0, 1, 2, 3] rfl)
  exact lp_69076 13 0 ls (⟨by decide, by decide⟩ : 0 ≤ (0 : Int32).toInt ∧ (0 : Int32).toInt ≤ 12) (by decide) (lv_sub hl [0, 1] rfl)
set_option maxHeartbeats 4000000 in
set_option maxRecDepth 100000 in
theorem c_X12_manyOf (l : Launch) (D : va_G) (g : Nat → ClassId) (mm : Nat) (rw : Nat) (p1 : Int32) (i_thrown : Int32) (m_s : Nat) (m_spare : Nat) (m_kept : Nat) (m_undone : Nat) (m_triedWay : Nat) (m_isKept : Nat) (i_undoMany : Int32) (m_tape : Nat) (i_length : Int32) (i_size : Int32) (i_p : Int32) (i_at : Int32) (i_token : Int32) (i_number : Int32) (i_letterMany : Int32) (i_fault : Int32) (i_faultAt : Int32) (m_letters : Nat) (i_isKnown : Int32) (m_choice : Nat) (m_row : Nat) (m_up : Nat) (m_low : Nat) (m_m : Nat) (m_bestUp : Nat) (m_bestLow : Nat) (m_replyUp : Nat) (m_replyLow : Nat) (m_worthUp : Nat) (m_worthLow : Nat) (m_bestWay : Nat) (i_seed : Int32) (m_told : Nat) (i_toldMany : Int32) (rf : Nat → Int32) (h_i_undoMany : 0 ≤ (i_undoMany : Int32).toInt ∧ (i_undoMany : Int32).toInt ≤ 8) (h_i_length : 0 ≤ (i_length : Int32).toInt ∧ (i_length : Int32).toInt ≤ 440) (h_i_size : 0 ≤ (i_size : Int32).toInt ∧ (i_size : Int32).toInt ≤ 440) (h_i_p : 0 ≤ (i_p : Int32).toInt ∧ (i_p : Int32).toInt ≤ 440) (h_i_at : 0 ≤ (i_at : Int32).toInt ∧ (i_at : Int32).toInt ≤ 440) (h_i_token : 0 ≤ (i_token : Int32).toInt ∧ (i_token : Int32).toInt ≤ 4) (h_i_number : 0 ≤ (i_number : Int32).toInt ∧ (i_number : Int32).toInt ≤ 814) (h_i_letterMany : (-440) ≤ (i_letterMany : Int32).toInt ∧ (i_letterMany : Int32).toInt ≤ 440) (h_i_isKnown : 0 ≤ (i_isKnown : Int32).toInt ∧ (i_isKnown : Int32).toInt ≤ 1) (h_i_toldMany : 0 ≤ (i_toldMany : Int32).toInt ∧ (i_toldMany : Int32).toInt ≤ 900) (hG : GR rf) : Met l yX12_manyOf (.code yX12_manyOf cX12_manyOf 5 (some .int) :: wsL_law) ({ frames := 0, cells := 0, slots := 0, locals := 0 }) (va_Pc [.ref mm, .ref rw, .int p1] (fun U => va_P D vwCl [(mm, .inr (12, (.int i_thrown :: .ref m_s :: .ref m_spare :: .ref m_kept :: .ref m_undone :: .ref m_triedWay :: .ref m_isKept :: .int i_undoMany :: .ref m_tape :: .int i_length :: .int i_size :: .int i_p :: .int i_at :: .int i_token :: .int i_number :: .int i_letterMany :: .int i_fault :: .int i_faultAt :: .ref m_letters :: .int i_isKnown :: .ref m_choice :: .ref m_row :: .ref m_up :: .ref m_low :: .ref m_m :: .ref m_bestUp :: .ref m_bestLow :: .ref m_replyUp :: .ref m_replyLow :: .ref m_worthUp :: .ref m_worthLow :: .ref m_bestWay :: .int i_seed :: .ref m_told :: .int i_toldMany :: []))), (rw, .inl (g 0, 193, .inl rf))] U.heap ∧ va_K D vwCl (TY g) U)) (vp_Si (fun r => (0 ≤ (r : Int32).toInt ∧ (r : Int32).toInt ≤ 12) ∧ ((r : Int32).toInt = gc rf (p1 : Int32).toInt (rf 0).toInt.toNat))) 0 0 (fun _ => False) := by
  refine Met.ofW (cc := cX12_manyOf) (maxL := 5) (ret := (some .int)) (by decide) rfl ?_
  intro p e s m args below meth c s₁ B hml hv
  obtain ⟨ha, hP, hK⟩ := hv
  have hx := B.exec
  have hb := B.bytes
  have hr := B.returns
  have hts0 := atoms_spec (ws := (.code yX12_manyOf cX12_manyOf 5 (some .int) :: wsL_law)) B.pre
  have hts : ∀ w ∈ wsL_law, w.before args s = true := fun w h => hts0 w (List.mem_cons_of_mem _ h)
  have hown : s.vm.findClass RX12 = some m.cls := findClass_of_methodNamed B.named
  have hlocks := B.notSynchronized
  have hP : va_P D vwCl [(mm, .inr (12, (.int i_thrown :: .ref m_s :: .ref m_spare :: .ref m_kept :: .ref m_undone :: .ref m_triedWay :: .ref m_isKept :: .int i_undoMany :: .ref m_tape :: .int i_length :: .int i_size :: .int i_p :: .int i_at :: .int i_token :: .int i_number :: .int i_letterMany :: .int i_fault :: .int i_faultAt :: .ref m_letters :: .int i_isKnown :: .ref m_choice :: .ref m_row :: .ref m_up :: .ref m_low :: .ref m_m :: .ref m_bestUp :: .ref m_bestLow :: .ref m_replyUp :: .ref m_replyLow :: .ref m_worthUp :: .ref m_worthLow :: .ref m_bestWay :: .int i_seed :: .ref m_told :: .int i_toldMany :: []))), (rw, .inl (g 0, 193, .inl rf))] s.heap := hP
  refine W.eq (g2 := entryFrame m ([.ref mm, .ref rw, .int p1] : List Value).toArray 5) (by rw [ha]) ?_
  have hl := lv_entry ([.ref mm, .ref rw, .int p1]) (n := 5) (Nat.le_of_ble_eq_true rfl)
  rw [lg_entry_eq]
  generalize (lg_sl ([.ref mm, .ref rw, .int p1]) ++ List.replicate (5 - (lg_sl ([.ref mm, .ref rw, .int p1])).length) Slot.unset).toArray = ls at hl ⊢
  have hl : lv_has ls 5 [(0, .ref mm), (1, .ref rw), (2, .int p1)] := hl
  refine lv_iconst (v := 0) hx hb dX12_manyOf_0 (by decide) ?_
  refine lv_istore_n (lv' := [(3, .int 0), (0, .ref mm), (1, .ref rw), (2, .int p1)]) hx hb dX12_manyOf_1 rfl hl (by decide) rfl (fun ls hl => ?_)
  refine lv_iconst (v := 0) hx hb dX12_manyOf_2 (by decide) ?_
  refine lv_istore (lv' := [(4, .int 0), (3, .int 0), (0, .ref mm), (1, .ref rw), (2, .int p1)]) hx hb dX12_manyOf_3 hl (by decide) rfl (fun ls hl => ?_)
  have lp_69235 : ∀ (n_69235 : Nat) (x_69233 : Int32) (x_69234 : Int32) (ls : Array Slot), (0 ≤ (x_69233 : Int32).toInt ∧ (x_69233 : Int32).toInt ≤ 12) → (0 ≤ (x_69234 : Int32).toInt ∧ (x_69234 : Int32).toInt ≤ 12) → (x_69233.toInt = gc rf (p1 : Int32).toInt x_69234.toInt.toNat) → (x_69233.toInt ≤ x_69234.toInt ∧ x_69234.toInt ≤ (rf 0).toInt) → (12 - x_69234.toInt < (n_69235 : Int)) → lv_has ls 5 [(4, .int x_69234), (3, .int x_69233), (0, .ref mm), (1, .ref rw), (2, .int p1)] → W p l e (headSpec (.code yX12_manyOf cX12_manyOf 5 (some .int) :: wsL_law) ({ frames := 0, cells := 0, slots := 0, locals := 0 })).room s m args below meth c s.heap [] 0 0 (MQ below (vp_Si (fun r => (0 ≤ (r : Int32).toInt ∧ (r : Int32).toInt ≤ 12) ∧ ((r : Int32).toInt = gc rf (p1 : Int32).toInt (rf 0).toInt.toNat))) args s 0 0 (fun _ => False)) (F0 m 5 ls []) := by
    intro n_69235
    induction n_69235 with
    | zero =>
      intro x_69233 x_69234 ls h_x_69233 h_x_69234 hr69235_0 hr69235_1 hm_69235 hl
      exfalso; omega
    | succ n_69235 ih_69235 =>
      intro x_69233 x_69234 ls h_x_69233 h_x_69234 hr69235_0 hr69235_1 hm_69235 hl
      refine lv_iload hx hb dX12_manyOf_5 (lv_at hl 0 rfl) ?_
      refine lv_aload_n hx hb dX12_manyOf_7 rfl (lv_at hl 3 rfl) ?_
      refine lv_iconst (v := 0) hx hb dX12_manyOf_8 (by decide) ?_
      refine va_iald hx hb hK hP 1 0 rfl rfl (tz_in (by decide +kernel)) dX12_manyOf_9 ?_
      refine lv_topi (fun v_69236 v_69236_e => ?_)
      have h_v_69236 : 0 ≤ (v_69236 : Int32).toInt ∧ (v_69236 : Int32).toInt ≤ 12 := by rw [v_69236_e]; exact gr_nodes hG (⟨by decide, by decide⟩ : 0 ≤ (0 : Int32).toInt ∧ (0 : Int32).toInt ≤ 0)
      have g_v_69236 : v_69236 = rf (0) := v_69236_e.trans (congrArg rf rfl)
      have gi_v_69236 := congrArg Int32.toInt g_v_69236
      refine lv_icmp_ge (tgt := 37) hx hb dX12_manyOf_10 (by decide) (fun c_69237 => ?_) (fun c_69237 => ?_)
      · skip
        have c_69237_i := Int32.le_iff_toInt_le.mp c_69237
        refine lv_iload_n hx hb dX12_manyOf_37 rfl (lv_at hl 1 rfl) ?_
        exact W.iret (v := x_69233) hx hb hr (fun t ht hW => ⟨x_69233, rfl, ⟨(tr_w h_x_69233 (by decide) (by decide)), (hr69235_0.trans (congrArg (gc rf (p1 : Int32).toInt) (by have q8 := congrArg Int32.toInt g_v_69236; omega)))⟩, ht⟩) (fun _ h => nomatch h) dX12_manyOf_38
      · skip
        have c_69237_i := Int32.lt_iff_toInt_lt.mp (Int32.not_le.mp c_69237)
        have c_69237_i := Int32.lt_iff_toInt_lt.mp (Int32.not_le.mp c_69237)
        have h_69238 : 0 ≤ (x_69234 : Int32).toInt ∧ (x_69234 : Int32).toInt ≤ 11 := by have q1 := h_x_69234; have q2 := h_v_69236; omega
        have h_69239 : 1 ≤ (v_69236 : Int32).toInt ∧ (v_69236 : Int32).toInt ≤ 12 := by have q1 := h_x_69234; have q2 := h_v_69236; omega
        refine lv_iload_n hx hb dX12_manyOf_13 rfl (lv_at hl 1 rfl) ?_
        refine lv_aload_n hx hb dX12_manyOf_14 rfl (lv_at hl 3 rfl) ?_
        refine lv_iconst (v := 1) hx hb dX12_manyOf_15 (by decide) ?_
        refine lv_iload hx hb dX12_manyOf_16 (lv_at hl 0 rfl) ?_
        refine lv_iadd hx hb dX12_manyOf_18 ?_
        refine lv_topi (fun v_69240 v_69240_e => ?_)
        have h_v_69240 : 1 ≤ (v_69240 : Int32).toInt ∧ (v_69240 : Int32).toInt ≤ 12 := by rw [v_69240_e]; exact tr_add (⟨by decide, by decide⟩ : 1 ≤ (1 : Int32).toInt ∧ (1 : Int32).toInt ≤ 1) h_69238 (by decide) (by decide) (by decide) (by decide)
        have q_v_69240 : v_69240.toInt = 1 + x_69234.toInt := by rw [v_69240_e]; exact (tr_addX (⟨by decide, by decide⟩ : 1 ≤ (1 : Int32).toInt ∧ (1 : Int32).toInt ≤ 1) h_69238 (by decide) (by decide)).trans (by rw [tk_1])
        refine va_iald hx hb hK hP 1 0 rfl rfl (tr_in h_v_69240 (by decide) (by decide)) dX12_manyOf_19 ?_
        refine lv_topi (fun v_69241 v_69241_e => ?_)
        have h_v_69241 : 0 ≤ (v_69241 : Int32).toInt ∧ (v_69241 : Int32).toInt ≤ 3 := by rw [v_69241_e]; exact gr_kind hG (tr_w h_v_69240 (by decide) (by decide))
        have g_v_69241 : v_69241 = rf (1 + x_69234.toInt.toNat) := v_69241_e.trans (congrArg rf (by show Int.toNat _ = _; omega))
        have gi_v_69241 := congrArg Int32.toInt g_v_69241
        refine lv_iload_n hx hb dX12_manyOf_20 rfl (lv_at hl 4 rfl) ?_
        refine lv_icmp_ne (tgt := 28) hx hb dX12_manyOf_21 (by decide) (fun c_69242 => ?_) (fun c_69242 => ?_)
        · skip
          have c_69242_i := c_69242
          have c_69242_i : ¬ (v_69241 : Int32).toInt = (p1 : Int32).toInt := (fun q => c_69242 (Int32.toInt_inj.mp q))
          refine lv_iconst (v := 0) hx hb dX12_manyOf_28 (by decide) ?_
          refine lv_iadd hx hb dX12_manyOf_29 ?_
          refine lv_topi (fun v_69243 v_69243_e => ?_)
          have h_v_69243 : 0 ≤ (v_69243 : Int32).toInt ∧ (v_69243 : Int32).toInt ≤ 12 := by rw [v_69243_e]; exact tr_add h_x_69233 (⟨by decide, by decide⟩ : 0 ≤ (0 : Int32).toInt ∧ (0 : Int32).toInt ≤ 0) (by decide) (by decide) (by decide) (by decide)
          have q_v_69243 : v_69243.toInt = x_69233.toInt + 0 := by rw [v_69243_e]; exact tr_addE h_x_69233 (⟨by decide, by decide⟩ : 0 ≤ (0 : Int32).toInt ∧ (0 : Int32).toInt ≤ 0) (by decide) (by decide)
          refine lv_istore_n (lv' := [(3, .int v_69243), (4, .int x_69234), (0, .ref mm), (1, .ref rw), (2, .int p1)]) hx hb dX12_manyOf_30 rfl hl (by decide) rfl (fun ls hl => ?_)
          obtain ⟨v_69244, v_69244_e⟩ : ∃ y : Int32, y = x_69234 + Int32.ofInt 1 := ⟨_, rfl⟩
          have h_v_69244 : 1 ≤ (v_69244 : Int32).toInt ∧ (v_69244 : Int32).toInt ≤ 12 := by rw [v_69244_e]; exact tr_add h_69238 (⟨by decide, by decide⟩ : 1 ≤ (Int32.ofInt 1 : Int32).toInt ∧ (Int32.ofInt 1 : Int32).toInt ≤ 1) (by decide) (by decide) (by decide) (by decide)
          have q_v_69244 : v_69244.toInt = x_69234.toInt + 1 := by rw [v_69244_e]; exact tr_addE h_69238 (⟨by decide, by decide⟩ : 1 ≤ (Int32.ofInt 1 : Int32).toInt ∧ (Int32.ofInt 1 : Int32).toInt ≤ 1) (by decide) (by decide)
          refine lv_iinc (v := v_69244) (lv' := [(4, .int v_69244), (3, .int v_69243), (0, .ref mm), (1, .ref rw), (2, .int p1)]) hx hb dX12_manyOf_31 hl (k := 1) rfl v_69244_e.symm (by decide) rfl (fun ls hl => ?_)
          refine lv_goto (tgt := 5) hx hb dX12_manyOf_34 (by decide) ?_
          exact ih_69235 v_69243 v_69244 ls (tr_w h_v_69243 (by decide) (by decide)) (tr_w h_v_69244 (by decide) (by decide)) ((gc_next (d' := 0) (t := v_69243.toInt) (j := v_69244.toInt.toNat) hr69235_0 g_v_69241 (by omega)).2 (by omega) (by omega)) (by have z_0 := tk_0; have q9 := hG.1; have q8 := congrArg Int32.toInt g_v_69236; omega) (by omega) (lv_sub hl [0, 1, 2, 3, 4] rfl)
        · skip
          have c_69242_i := c_69242
          have c_69242_i : (v_69241 : Int32).toInt = (p1 : Int32).toInt := congrArg Int32.toInt c_69242
          refine lv_iconst (v := 1) hx hb dX12_manyOf_24 (by decide) ?_
          refine lv_goto (tgt := 29) hx hb dX12_manyOf_25 (by decide) ?_
          refine lv_iadd hx hb dX12_manyOf_29 ?_
          refine lv_topi (fun v_69245 v_69245_e => ?_)
          have h_v_69245 : 1 ≤ (v_69245 : Int32).toInt ∧ (v_69245 : Int32).toInt ≤ 13 := by rw [v_69245_e]; exact tr_add h_x_69233 (⟨by decide, by decide⟩ : 1 ≤ (1 : Int32).toInt ∧ (1 : Int32).toInt ≤ 1) (by decide) (by decide) (by decide) (by decide)
          have q_v_69245 : v_69245.toInt = x_69233.toInt + 1 := by rw [v_69245_e]; exact tr_addE h_x_69233 (⟨by decide, by decide⟩ : 1 ≤ (1 : Int32).toInt ∧ (1 : Int32).toInt ≤ 1) (by decide) (by decide)
          refine lv_istore_n (lv' := [(3, .int v_69245), (4, .int x_69234), (0, .ref mm), (1, .ref rw), (2, .int p1)]) hx hb dX12_manyOf_30 rfl hl (by decide) rfl (fun ls hl => ?_)
          obtain ⟨v_69246, v_69246_e⟩ : ∃ y : Int32, y = x_69234 + Int32.ofInt 1 := ⟨_, rfl⟩
          have h_v_69246 : 1 ≤ (v_69246 : Int32).toInt ∧ (v_69246 : Int32).toInt ≤ 12 := by rw [v_69246_e]; exact tr_add h_69238 (⟨by decide, by decide⟩ : 1 ≤ (Int32.ofInt 1 : Int32).toInt ∧ (Int32.ofInt 1 : Int32).toInt ≤ 1) (by decide) (by decide) (by decide) (by decide)
          have q_v_69246 : v_69246.toInt = x_69234.toInt + 1 := by rw [v_69246_e]; exact tr_addE h_69238 (⟨by decide, by decide⟩ : 1 ≤ (Int32.ofInt 1 : Int32).toInt ∧ (Int32.ofInt 1 : Int32).toInt ≤ 1) (by decide) (by decide)
          refine lv_iinc (v := v_69246) (lv' := [(4, .int v_69246), (3, .int v_69245), (0, .ref mm), (1, .ref rw), (2, .int p1)]) hx hb dX12_manyOf_31 hl (k := 1) rfl v_69246_e.symm (by decide) rfl (fun ls hl => ?_)
          refine lv_goto (tgt := 5) hx hb dX12_manyOf_34 (by decide) ?_
          exact ih_69235 v_69245 v_69246 ls (by omega) (tr_w h_v_69246 (by decide) (by decide)) ((gc_next (d' := 0) (t := v_69245.toInt) (j := v_69246.toInt.toNat) hr69235_0 g_v_69241 (by omega)).1 (by omega) (by omega)) (by have z_0 := tk_0; have q9 := hG.1; have q8 := congrArg Int32.toInt g_v_69236; omega) (by omega) (lv_sub hl [0, 1, 2, 3, 4] rfl)
  exact lp_69235 13 0 0 ls (⟨by decide, by decide⟩ : 0 ≤ (0 : Int32).toInt ∧ (0 : Int32).toInt ≤ 12) (⟨by decide, by decide⟩ : 0 ≤ (0 : Int32).toInt ∧ (0 : Int32).toInt ≤ 12) rfl (by have z_0 := tk_0; have q9 := hG.1; omega) (by decide) (lv_sub hl [0, 1, 2, 3, 4] rfl)
set_option maxHeartbeats 4000000 in
set_option maxRecDepth 100000 in
theorem c_X12_weights (l : Launch) (D : va_G) (g : Nat → ClassId) (rw : Nat) (p1 : Int32) (rf : Nat → Int32) (h_p1 : 0 ≤ (p1 : Int32).toInt ∧ (p1 : Int32).toInt ≤ 11) (hG : GR rf) : Met l yX12_weights (.code yX12_weights cX12_weights 4 (some .int) :: wsL_law) ({ frames := 0, cells := 0, slots := 0, locals := 0 }) (va_Pc [.ref rw, .int p1] (fun U => va_P D vwCl [(rw, .inl (g 0, 193, .inl rf))] U.heap ∧ va_K D vwCl (TY g) U)) (vp_Si (fun r => (0 ≤ (r : Int32).toInt ∧ (r : Int32).toInt ≤ 9) ∧ ((r : Int32).toInt = gw rf (p1 : Int32).toInt.toNat (rf (25 + (p1 : Int32).toInt.toNat)).toInt.toNat))) 0 0 (fun _ => False) := by
  refine Met.ofW (cc := cX12_weights) (maxL := 4) (ret := (some .int)) (by decide) rfl ?_
  intro p e s m args below meth c s₁ B hml hv
  obtain ⟨ha, hP, hK⟩ := hv
  have hx := B.exec
  have hb := B.bytes
  have hr := B.returns
  have hts0 := atoms_spec (ws := (.code yX12_weights cX12_weights 4 (some .int) :: wsL_law)) B.pre
  have hts : ∀ w ∈ wsL_law, w.before args s = true := fun w h => hts0 w (List.mem_cons_of_mem _ h)
  have hown : s.vm.findClass RX12 = some m.cls := findClass_of_methodNamed B.named
  have hlocks := B.notSynchronized
  have hP : va_P D vwCl [(rw, .inl (g 0, 193, .inl rf))] s.heap := hP
  refine W.eq (g2 := entryFrame m ([.ref rw, .int p1] : List Value).toArray 4) (by rw [ha]) ?_
  have hl := lv_entry ([.ref rw, .int p1]) (n := 4) (Nat.le_of_ble_eq_true rfl)
  rw [lg_entry_eq]
  generalize (lg_sl ([.ref rw, .int p1]) ++ List.replicate (4 - (lg_sl ([.ref rw, .int p1])).length) Slot.unset).toArray = ls at hl ⊢
  have hl : lv_has ls 4 [(0, .ref rw), (1, .int p1)] := hl
  refine lv_iconst (v := 0) hx hb dX12_weights_0 (by decide) ?_
  refine lv_istore_n (lv' := [(2, .int 0), (0, .ref rw), (1, .int p1)]) hx hb dX12_weights_1 rfl hl (by decide) rfl (fun ls hl => ?_)
  refine lv_iconst (v := 0) hx hb dX12_weights_2 (by decide) ?_
  refine lv_istore_n (lv' := [(3, .int 0), (2, .int 0), (0, .ref rw), (1, .int p1)]) hx hb dX12_weights_3 rfl hl (by decide) rfl (fun ls hl => ?_)
  have lp_69262 : ∀ (n_69262 : Nat) (x_69260 : Int32) (x_69261 : Int32) (ls : Array Slot), (0 ≤ (x_69260 : Int32).toInt ∧ (x_69260 : Int32).toInt ≤ 9) → (0 ≤ (x_69261 : Int32).toInt ∧ (x_69261 : Int32).toInt ≤ 3) → (x_69260.toInt = gw rf (p1 : Int32).toInt.toNat x_69261.toInt.toNat) → (x_69260.toInt ≤ 3 * x_69261.toInt ∧ x_69261.toInt ≤ (rf (25 + (p1 : Int32).toInt.toNat)).toInt) → (3 - x_69261.toInt < (n_69262 : Int)) → lv_has ls 4 [(3, .int x_69261), (2, .int x_69260), (0, .ref rw), (1, .int p1)] → W p l e (headSpec (.code yX12_weights cX12_weights 4 (some .int) :: wsL_law) ({ frames := 0, cells := 0, slots := 0, locals := 0 })).room s m args below meth c s.heap [] 0 0 (MQ below (vp_Si (fun r => (0 ≤ (r : Int32).toInt ∧ (r : Int32).toInt ≤ 9) ∧ ((r : Int32).toInt = gw rf (p1 : Int32).toInt.toNat (rf (25 + (p1 : Int32).toInt.toNat)).toInt.toNat))) args s 0 0 (fun _ => False)) (F0 m 4 ls []) := by
    intro n_69262
    induction n_69262 with
    | zero =>
      intro x_69260 x_69261 ls h_x_69260 h_x_69261 hr69262_0 hr69262_1 hm_69262 hl
      exfalso; omega
    | succ n_69262 ih_69262 =>
      intro x_69260 x_69261 ls h_x_69260 h_x_69261 hr69262_0 hr69262_1 hm_69262 hl
      refine lv_iload_n hx hb dX12_weights_4 rfl (lv_at hl 0 rfl) ?_
      refine lv_aload_n hx hb dX12_weights_5 rfl (lv_at hl 2 rfl) ?_
      refine lv_bipush (v := 25) hx hb dX12_weights_6 (by decide) ?_
      refine lv_iload_n hx hb dX12_weights_8 rfl (lv_at hl 3 rfl) ?_
      refine lv_iadd hx hb dX12_weights_9 ?_
      refine lv_topi (fun v_69263 v_69263_e => ?_)
      have h_v_69263 : 25 ≤ (v_69263 : Int32).toInt ∧ (v_69263 : Int32).toInt ≤ 36 := by rw [v_69263_e]; exact tr_add (⟨by decide, by decide⟩ : 25 ≤ (25 : Int32).toInt ∧ (25 : Int32).toInt ≤ 25) h_p1 (by decide) (by decide) (by decide) (by decide)
      have q_v_69263 : v_69263.toInt = 25 + p1.toInt := by rw [v_69263_e]; exact (tr_addX (⟨by decide, by decide⟩ : 25 ≤ (25 : Int32).toInt ∧ (25 : Int32).toInt ≤ 25) h_p1 (by decide) (by decide)).trans (by rw [tk_25])
      refine va_iald hx hb hK hP 0 0 rfl rfl (tr_in h_v_69263 (by decide) (by decide)) dX12_weights_10 ?_
      refine lv_topi (fun v_69264 v_69264_e => ?_)
      have h_v_69264 : 0 ≤ (v_69264 : Int32).toInt ∧ (v_69264 : Int32).toInt ≤ 3 := by rw [v_69264_e]; exact gr_ways hG (tr_w h_v_69263 (by decide) (by decide))
      have g_v_69264 : v_69264 = rf (25 + p1.toInt.toNat) := v_69264_e.trans (congrArg rf (by show Int.toNat _ = _; omega))
      have gi_v_69264 := congrArg Int32.toInt g_v_69264
      refine lv_icmp_ge (tgt := 33) hx hb dX12_weights_11 (by decide) (fun c_69265 => ?_) (fun c_69265 => ?_)
      · skip
        have c_69265_i := Int32.le_iff_toInt_le.mp c_69265
        refine lv_iload_n hx hb dX12_weights_33 rfl (lv_at hl 1 rfl) ?_
        exact W.iret (v := x_69260) hx hb hr (fun t ht hW => ⟨x_69260, rfl, ⟨(tr_w h_x_69260 (by decide) (by decide)), (hr69262_0.trans (congrArg (gw rf (p1 : Int32).toInt.toNat) (by have q8 := congrArg Int32.toInt g_v_69264; omega)))⟩, ht⟩) (fun _ h => nomatch h) dX12_weights_34
      · skip
        have c_69265_i := Int32.lt_iff_toInt_lt.mp (Int32.not_le.mp c_69265)
        have c_69265_i := Int32.lt_iff_toInt_lt.mp (Int32.not_le.mp c_69265)
        have h_69266 : 0 ≤ (x_69261 : Int32).toInt ∧ (x_69261 : Int32).toInt ≤ 2 := by have q1 := h_x_69261; have q2 := h_v_69264; omega
        have h_69267 : 1 ≤ (v_69264 : Int32).toInt ∧ (v_69264 : Int32).toInt ≤ 3 := by have q1 := h_x_69261; have q2 := h_v_69264; omega
        refine lv_iload_n hx hb dX12_weights_14 rfl (lv_at hl 1 rfl) ?_
        refine lv_aload_n hx hb dX12_weights_15 rfl (lv_at hl 2 rfl) ?_
        refine lv_bipush (v := 73) hx hb dX12_weights_16 (by decide) ?_
        refine lv_iconst (v := 3) hx hb dX12_weights_18 (by decide) ?_
        refine lv_iload_n hx hb dX12_weights_19 rfl (lv_at hl 3 rfl) ?_
        refine lv_imul hx hb dX12_weights_20 ?_
        refine lv_topi (fun v_69268 v_69268_e => ?_)
        have h_v_69268 : 0 ≤ (v_69268 : Int32).toInt ∧ (v_69268 : Int32).toInt ≤ 33 := by rw [v_69268_e]; exact tr_mul (⟨by decide, by decide⟩ : 3 ≤ (3 : Int32).toInt ∧ (3 : Int32).toInt ≤ 3) h_p1 (by decide) (by decide) (by decide) (by decide)
        have q_v_69268 : v_69268.toInt = 3 * p1.toInt := by rw [v_69268_e]; exact (tr_mulX (⟨by decide, by decide⟩ : 3 ≤ (3 : Int32).toInt ∧ (3 : Int32).toInt ≤ 3) h_p1 (by decide) (by decide)).trans (by rw [tk_3])
        refine lv_iadd hx hb dX12_weights_21 ?_
        refine lv_topi (fun v_69269 v_69269_e => ?_)
        have h_v_69269 : 73 ≤ (v_69269 : Int32).toInt ∧ (v_69269 : Int32).toInt ≤ 106 := by rw [v_69269_e]; exact tr_add (⟨by decide, by decide⟩ : 73 ≤ (73 : Int32).toInt ∧ (73 : Int32).toInt ≤ 73) h_v_69268 (by decide) (by decide) (by decide) (by decide)
        have q_v_69269 : v_69269.toInt = 73 + v_69268.toInt := by rw [v_69269_e]; exact (tr_addX (⟨by decide, by decide⟩ : 73 ≤ (73 : Int32).toInt ∧ (73 : Int32).toInt ≤ 73) h_v_69268 (by decide) (by decide)).trans (by rw [tk_73])
        refine lv_iload_n hx hb dX12_weights_22 rfl (lv_at hl 0 rfl) ?_
        refine lv_iadd hx hb dX12_weights_23 ?_
        refine lv_topi (fun v_69270 v_69270_e => ?_)
        have h_v_69270 : 73 ≤ (v_69270 : Int32).toInt ∧ (v_69270 : Int32).toInt ≤ 108 := by rw [v_69270_e]; exact tr_add h_v_69269 h_69266 (by decide) (by decide) (by decide) (by decide)
        have q_v_69270 : v_69270.toInt = v_69269.toInt + x_69261.toInt := by rw [v_69270_e]; exact tr_addX h_v_69269 h_69266 (by decide) (by decide)
        refine va_iald hx hb hK hP 0 0 rfl rfl (tr_in h_v_69270 (by decide) (by decide)) dX12_weights_24 ?_
        refine lv_topi (fun v_69271 v_69271_e => ?_)
        have h_v_69271 : 0 ≤ (v_69271 : Int32).toInt ∧ (v_69271 : Int32).toInt ≤ 3 := by rw [v_69271_e]; exact gr_heavy hG (tr_w h_v_69270 (by decide) (by decide))
        have g_v_69271 : v_69271 = rf (73 + 3 * p1.toInt.toNat + x_69261.toInt.toNat) := v_69271_e.trans (congrArg rf (by show Int.toNat _ = _; omega))
        have gi_v_69271 := congrArg Int32.toInt g_v_69271
        refine lv_iadd hx hb dX12_weights_25 ?_
        refine lv_topi (fun v_69272 v_69272_e => ?_)
        have h_v_69272 : 0 ≤ (v_69272 : Int32).toInt ∧ (v_69272 : Int32).toInt ≤ 12 := by rw [v_69272_e]; exact tr_add h_x_69260 h_v_69271 (by decide) (by decide) (by decide) (by decide)
        have q_v_69272 : v_69272.toInt = x_69260.toInt + v_69271.toInt := by rw [v_69272_e]; exact tr_addX h_x_69260 h_v_69271 (by decide) (by decide)
        refine lv_istore_n (lv' := [(2, .int v_69272), (3, .int x_69261), (0, .ref rw), (1, .int p1)]) hx hb dX12_weights_26 rfl hl (by decide) rfl (fun ls hl => ?_)
        obtain ⟨v_69273, v_69273_e⟩ : ∃ y : Int32, y = x_69261 + Int32.ofInt 1 := ⟨_, rfl⟩
        have h_v_69273 : 1 ≤ (v_69273 : Int32).toInt ∧ (v_69273 : Int32).toInt ≤ 3 := by rw [v_69273_e]; exact tr_add h_69266 (⟨by decide, by decide⟩ : 1 ≤ (Int32.ofInt 1 : Int32).toInt ∧ (Int32.ofInt 1 : Int32).toInt ≤ 1) (by decide) (by decide) (by decide) (by decide)
        have q_v_69273 : v_69273.toInt = x_69261.toInt + 1 := by rw [v_69273_e]; exact tr_addE h_69266 (⟨by decide, by decide⟩ : 1 ≤ (Int32.ofInt 1 : Int32).toInt ∧ (Int32.ofInt 1 : Int32).toInt ≤ 1) (by decide) (by decide)
        refine lv_iinc (v := v_69273) (lv' := [(3, .int v_69273), (2, .int v_69272), (0, .ref rw), (1, .int p1)]) hx hb dX12_weights_27 hl (k := 1) rfl v_69273_e.symm (by decide) rfl (fun ls hl => ?_)
        refine lv_goto (tgt := 4) hx hb dX12_weights_30 (by decide) ?_
        exact ih_69262 v_69272 v_69273 ls (by omega) (tr_w h_v_69273 (by decide) (by decide)) (gw_next (t := v_69272.toInt) (j := v_69273.toInt.toNat) hr69262_0 g_v_69271 (by omega) (by omega)) (by have z_0 := tk_0; have q9 := (hG.2.1 (p1 : Int32).toInt.toNat (by omega)).2.2.1; have q8 := congrArg Int32.toInt g_v_69264; omega) (by omega) (lv_sub hl [0, 1, 2, 3] rfl)
  exact lp_69262 4 0 0 ls (⟨by decide, by decide⟩ : 0 ≤ (0 : Int32).toInt ∧ (0 : Int32).toInt ≤ 9) (⟨by decide, by decide⟩ : 0 ≤ (0 : Int32).toInt ∧ (0 : Int32).toInt ≤ 3) rfl (by have z_0 := tk_0; have q9 := (hG.2.1 (p1 : Int32).toInt.toNat (by omega)).2.2.1; omega) (by decide) (lv_sub hl [0, 1, 2, 3] rfl)
set_option maxHeartbeats 4000000 in
set_option maxRecDepth 100000 in
theorem c_X12_copies (l : Launch) (D : va_G) (g : Nat → ClassId) (sz : Nat) (fa : Nat) (p1 : Int32) (ta : Nat) (p3 : Int32) (ff : Nat → Int32) (tf : Nat → Int32) (h_p1 : 0 ≤ (p1 : Int32).toInt ∧ (p1 : Int32).toInt ≤ 0) (h_p3 : 0 ≤ (p3 : Int32).toInt ∧ (p3 : Int32).toInt ≤ 0) : Met l yX12_copies (.code yX12_copies cX12_copies 5 none :: wsL_law) ({ frames := 0, cells := 0, slots := 0, locals := 0 }) (va_Pc [.ref fa, .int p1, .ref ta, .int p3] (fun U => U.heap.size = sz ∧ va_P D vwCl [(fa, .inl (g 0, 193, .inl ff)), (ta, .inl (g 0, 193, .inl tf))] U.heap ∧ va_K D vwCl (TY g) U ∧ va_D (fun _ => True) [(fa, .inl (g 0, 193, .inl ff)), (ta, .inl (g 0, 193, .inl tf))])) (va_Qv (fun (_ : Unit) => True) (fun _ t => ∃ otf : Nat → Int32, (otf = va_cpy ff tf (p1 : Int32).toInt.toNat (p3 : Int32).toInt.toNat 193) ∧ va_P D vwCl [(fa, .inl (g 0, 193, .inl ff)), (ta, .inl (g 0, 193, .inl otf))] t.heap ∧ va_D (va_A [(fa, .inl (g 0, 193, .inl ff)), (ta, .inl (g 0, 193, .inl tf))] sz) [(fa, .inl (g 0, 193, .inl ff)), (ta, .inl (g 0, 193, .inl otf))]) (va_A [(fa, .inl (g 0, 193, .inl ff)), (ta, .inl (g 0, 193, .inl tf))] sz)) 0 0 (va_A [(fa, .inl (g 0, 193, .inl ff)), (ta, .inl (g 0, 193, .inl tf))] sz) := by
  refine Met.ofW (cc := cX12_copies) (maxL := 5) (ret := none) (by decide) rfl ?_
  intro p e s m args below meth c s₁ B hml hv
  obtain ⟨ha, hsz, hP, hK, hD0⟩ := hv
  have hx := B.exec
  have hb := B.bytes
  have hr := B.returns
  have hts0 := atoms_spec (ws := (.code yX12_copies cX12_copies 5 none :: wsL_law)) B.pre
  have hts : ∀ w ∈ wsL_law, w.before args s = true := fun w h => hts0 w (List.mem_cons_of_mem _ h)
  have hown : s.vm.findClass RX12 = some m.cls := findClass_of_methodNamed B.named
  have hlocks := B.notSynchronized
  subst hsz
  have hD := hD0.self (sz := s.heap.size)
  generalize hAe : va_A [(fa, .inl (g 0, 193, .inl ff)), (ta, .inl (g 0, 193, .inl tf))] s.heap.size = A at hD ⊢
  have hA : ∀ q : Nat, s.heap.size ≤ q → A q := fun q h => by rw [← hAe]; exact Or.inr h
  have hS : va_S A s.heap s.heap [] := va_S.rf
  have hP : va_P D vwCl [(fa, .inl (g 0, 193, .inl ff)), (ta, .inl (g 0, 193, .inl tf))] s.heap := hP
  refine W.eq (g2 := entryFrame m ([.ref fa, .int p1, .ref ta, .int p3] : List Value).toArray 5) (by rw [ha]) ?_
  have hl := lv_entry ([.ref fa, .int p1, .ref ta, .int p3]) (n := 5) (Nat.le_of_ble_eq_true rfl)
  rw [lg_entry_eq]
  generalize (lg_sl ([.ref fa, .int p1, .ref ta, .int p3]) ++ List.replicate (5 - (lg_sl ([.ref fa, .int p1, .ref ta, .int p3])).length) Slot.unset).toArray = ls at hl ⊢
  have hl : lv_has ls 5 [(0, .ref fa), (1, .int p1), (2, .ref ta), (3, .int p3)] := hl
  refine lv_iconst (v := 0) hx hb dX12_copies_0 (by decide) ?_
  refine lv_istore (lv' := [(4, .int 0), (0, .ref fa), (1, .int p1), (2, .ref ta), (3, .int p3)]) hx hb dX12_copies_1 hl (by decide) rfl (fun ls hl => ?_)
  have lp_69295 : ∀ (n_69295 : Nat) (x_69293 : Int32) (f_69294 : Nat → Int32) (H : Heap) (locs : List Loc) (ls : Array Slot), (0 ≤ (x_69293 : Int32).toInt ∧ (x_69293 : Int32).toInt ≤ 193) → (f_69294 = va_cpy ff tf p1.toInt.toNat p3.toInt.toNat x_69293.toInt.toNat) → (193 - x_69293.toInt < (n_69295 : Int)) → va_P D vwCl [(fa, .inl (g 0, 193, .inl ff)), (ta, .inl (g 0, 193, .inl f_69294))] H → va_D A [(fa, .inl (g 0, 193, .inl ff)), (ta, .inl (g 0, 193, .inl f_69294))] → va_S A s.heap H locs → lv_has ls 5 [(4, .int x_69293), (0, .ref fa), (1, .int p1), (2, .ref ta), (3, .int p3)] → W p l e (headSpec (.code yX12_copies cX12_copies 5 none :: wsL_law) ({ frames := 0, cells := 0, slots := 0, locals := 0 })).room s m args below meth c H locs 0 0 (MQ below (va_Qv (fun (_ : Unit) => True) (fun _ t => ∃ otf : Nat → Int32, (otf = va_cpy ff tf (p1 : Int32).toInt.toNat (p3 : Int32).toInt.toNat 193) ∧ va_P D vwCl [(fa, .inl (g 0, 193, .inl ff)), (ta, .inl (g 0, 193, .inl otf))] t.heap ∧ va_D A [(fa, .inl (g 0, 193, .inl ff)), (ta, .inl (g 0, 193, .inl otf))]) A) args s 0 0 A) (F0 m 3 ls []) := by
    intro n_69295
    induction n_69295 with
    | zero =>
      intro x_69293 f_69294 H locs ls h_x_69293 hr69295_0 hm_69295 hP hD hS hl
      exfalso; omega
    | succ n_69295 ih_69295 =>
      intro x_69293 f_69294 H locs ls h_x_69293 hr69295_0 hm_69295 hP hD hS hl
      refine lv_iload hx hb dX12_copies_3 (lv_at hl 0 rfl) ?_
      refine lv_sipush (v := 193) hx hb dX12_copies_5 (by decide) ?_
      refine lv_icmp_ge (tgt := 29) hx hb dX12_copies_8 (by decide) (fun c_69296 => ?_) (fun c_69296 => ?_)
      · skip
        have kk_193 := tk_193
        have c_69296_i := Int32.le_iff_toInt_le.mp c_69296
        have c_69296_i := Int32.le_iff_toInt_le.mp c_69296
        have h_69297 : 193 ≤ (x_69293 : Int32).toInt ∧ (x_69293 : Int32).toInt ≤ 193 := by have q1 := h_x_69293; have q2 := (⟨by decide, by decide⟩ : 193 ≤ (193 : Int32).toInt ∧ (193 : Int32).toInt ≤ 193); omega
        have hP9 := hP.sub (ws' := [(fa, .inl (g 0, 193, .inl ff)), (ta, .inl (g 0, 193, .inl f_69294))]) [0, 1] rfl
        have hD9 := hD.sub (ws' := [(fa, .inl (g 0, 193, .inl ff)), (ta, .inl (g 0, 193, .inl f_69294))]) [0, 1] (by decide) rfl
        exact W.vret hx hb hr (fun t ht hW => ⟨⟨(), rfl, trivial, f_69294, (hr69295_0.trans (congrArg (va_cpy ff tf p1.toInt.toNat p3.toInt.toNat) (by have z_193 := tk_193; omega))), by rw [ht]; exact hP9, hD9⟩, hS.F ht⟩) hS.2.2 dX12_copies_29
      · skip
        have kk_193 := tk_193
        have c_69296_i := Int32.lt_iff_toInt_lt.mp (Int32.not_le.mp c_69296)
        have c_69296_i := Int32.lt_iff_toInt_lt.mp (Int32.not_le.mp c_69296)
        have h_69298 : 0 ≤ (x_69293 : Int32).toInt ∧ (x_69293 : Int32).toInt ≤ 192 := by have q1 := h_x_69293; have q2 := (⟨by decide, by decide⟩ : 193 ≤ (193 : Int32).toInt ∧ (193 : Int32).toInt ≤ 193); omega
        refine lv_aload_n hx hb dX12_copies_11 rfl (lv_at hl 3 rfl) ?_
        refine lv_iload_n hx hb dX12_copies_12 rfl (lv_at hl 4 rfl) ?_
        refine lv_iload hx hb dX12_copies_13 (lv_at hl 0 rfl) ?_
        refine lv_iadd hx hb dX12_copies_15 ?_
        refine lv_topi (fun v_69299 v_69299_e => ?_)
        have h_v_69299 : 0 ≤ (v_69299 : Int32).toInt ∧ (v_69299 : Int32).toInt ≤ 192 := by rw [v_69299_e]; exact tr_add h_p3 h_69298 (by decide) (by decide) (by decide) (by decide)
        have q_v_69299 : v_69299.toInt = p3.toInt + x_69293.toInt := by rw [v_69299_e]; exact tr_addX h_p3 h_69298 (by decide) (by decide)
        refine lv_aload_n hx hb dX12_copies_16 rfl (lv_at hl 1 rfl) ?_
        refine lv_iload_n hx hb dX12_copies_17 rfl (lv_at hl 2 rfl) ?_
        refine lv_iload hx hb dX12_copies_18 (lv_at hl 0 rfl) ?_
        refine lv_iadd hx hb dX12_copies_20 ?_
        refine lv_topi (fun v_69300 v_69300_e => ?_)
        have h_v_69300 : 0 ≤ (v_69300 : Int32).toInt ∧ (v_69300 : Int32).toInt ≤ 192 := by rw [v_69300_e]; exact tr_add h_p1 h_69298 (by decide) (by decide) (by decide) (by decide)
        have q_v_69300 : v_69300.toInt = p1.toInt + x_69293.toInt := by rw [v_69300_e]; exact tr_addX h_p1 h_69298 (by decide) (by decide)
        refine va_iald hx hb hK hP 0 0 rfl rfl (tr_in h_v_69300 (by decide) (by decide)) dX12_copies_21 ?_
        refine lv_topi (fun v_69301 v_69301_e => ?_)
        have g_v_69301 : v_69301 = ff (p1.toInt.toNat + x_69293.toInt.toNat) := v_69301_e.trans (congrArg ff (by show Int.toNat _ = _; omega))
        have gi_v_69301 := congrArg Int32.toInt g_v_69301
        refine va_iast hx hb hK hP hD hS 1 0 rfl rfl (tr_in h_v_69299 (by decide) (by decide)) dX12_copies_22 (fun H locs hP hD hS => ?_)
        obtain ⟨f_69302, f_69302_e, hP, hD⟩ : ∃ FX : Nat → Int32, FX = (upd f_69294 (v_69299 : Int32).toNatClampNeg v_69301) ∧ va_P D vwCl [(fa, .inl (g 0, 193, .inl ff)), (ta, .inl (g 0, 193, .inl FX))] H ∧ va_D A [(fa, .inl (g 0, 193, .inl ff)), (ta, .inl (g 0, 193, .inl FX))] := ⟨_, rfl, hP, hD⟩
        have hP : va_P D vwCl [(fa, .inl (g 0, 193, .inl ff)), (ta, .inl (g 0, 193, .inl f_69302))] H := hP
        have hD : va_D A [(fa, .inl (g 0, 193, .inl ff)), (ta, .inl (g 0, 193, .inl f_69302))] := hD
        obtain ⟨v_69303, v_69303_e⟩ : ∃ y : Int32, y = x_69293 + Int32.ofInt 1 := ⟨_, rfl⟩
        have h_v_69303 : 1 ≤ (v_69303 : Int32).toInt ∧ (v_69303 : Int32).toInt ≤ 193 := by rw [v_69303_e]; exact tr_add h_69298 (⟨by decide, by decide⟩ : 1 ≤ (Int32.ofInt 1 : Int32).toInt ∧ (Int32.ofInt 1 : Int32).toInt ≤ 1) (by decide) (by decide) (by decide) (by decide)
        have q_v_69303 : v_69303.toInt = x_69293.toInt + 1 := by rw [v_69303_e]; exact tr_addE h_69298 (⟨by decide, by decide⟩ : 1 ≤ (Int32.ofInt 1 : Int32).toInt ∧ (Int32.ofInt 1 : Int32).toInt ≤ 1) (by decide) (by decide)
        refine lv_iinc (v := v_69303) (lv' := [(4, .int v_69303), (0, .ref fa), (1, .int p1), (2, .ref ta), (3, .int p3)]) hx hb dX12_copies_23 hl (k := 0) rfl v_69303_e.symm (by decide) rfl (fun ls hl => ?_)
        refine lv_goto (tgt := 3) hx hb dX12_copies_26 (by decide) ?_
        exact ih_69295 v_69303 f_69302 H _ ls (tr_w h_v_69303 (by decide) (by decide)) (by rw [f_69302_e, show v_69303.toInt.toNat = _ + 1 from (by omega : _ = x_69293.toInt.toNat + 1)]; exact va_cpy_step hr69295_0 (by show Int.toNat _ = _; omega) g_v_69301) (by omega) (hP.sub [0, 1] rfl) (hD.sub [0, 1] (by decide) rfl) hS (lv_sub hl [0, 1, 2, 3, 4] rfl)
  exact lp_69295 194 0 tf s.heap _ ls (⟨by decide, by decide⟩ : 0 ≤ (0 : Int32).toInt ∧ (0 : Int32).toInt ≤ 193) (va_cpy_zero _ _ _ _) (by decide) (hP.sub [0, 1] rfl) (hD.sub [0, 1] (by decide) rfl) hS (lv_sub hl [0, 1, 2, 3, 4] rfl)
set_option maxHeartbeats 4000000 in
set_option maxRecDepth 100000 in
theorem c_X12_copiesK (l : Launch) (D : va_G) (g : Nat → ClassId) (sz : Nat) (fa : Nat) (p1 : Int32) (ta : Nat) (p3 : Int32) (ff : Nat → Int32) (tf : Nat → Int32) (h_p1 : 0 ≤ (p1 : Int32).toInt ∧ (p1 : Int32).toInt ≤ 0) (h_p3 : 0 ≤ (p3 : Int32).toInt ∧ (p3 : Int32).toInt ≤ 193) : Met l yX12_copies (.code yX12_copies cX12_copies 5 none :: wsL_law) ({ frames := 0, cells := 0, slots := 0, locals := 0 }) (va_Pc [.ref fa, .int p1, .ref ta, .int p3] (fun U => U.heap.size = sz ∧ va_P D vwCl [(fa, .inl (g 0, 193, .inl ff)), (ta, .inl (g 0, 386, .inl tf))] U.heap ∧ va_K D vwCl (TY g) U ∧ va_D (fun _ => True) [(fa, .inl (g 0, 193, .inl ff)), (ta, .inl (g 0, 386, .inl tf))])) (va_Qv (fun (_ : Unit) => True) (fun _ t => ∃ otf : Nat → Int32, (otf = va_cpy ff tf (p1 : Int32).toInt.toNat (p3 : Int32).toInt.toNat 193) ∧ va_P D vwCl [(fa, .inl (g 0, 193, .inl ff)), (ta, .inl (g 0, 386, .inl otf))] t.heap ∧ va_D (va_A [(fa, .inl (g 0, 193, .inl ff)), (ta, .inl (g 0, 386, .inl tf))] sz) [(fa, .inl (g 0, 193, .inl ff)), (ta, .inl (g 0, 386, .inl otf))]) (va_A [(fa, .inl (g 0, 193, .inl ff)), (ta, .inl (g 0, 386, .inl tf))] sz)) 0 0 (va_A [(fa, .inl (g 0, 193, .inl ff)), (ta, .inl (g 0, 386, .inl tf))] sz) := by
  refine Met.ofW (cc := cX12_copies) (maxL := 5) (ret := none) (by decide) rfl ?_
  intro p e s m args below meth c s₁ B hml hv
  obtain ⟨ha, hsz, hP, hK, hD0⟩ := hv
  have hx := B.exec
  have hb := B.bytes
  have hr := B.returns
  have hts0 := atoms_spec (ws := (.code yX12_copies cX12_copies 5 none :: wsL_law)) B.pre
  have hts : ∀ w ∈ wsL_law, w.before args s = true := fun w h => hts0 w (List.mem_cons_of_mem _ h)
  have hown : s.vm.findClass RX12 = some m.cls := findClass_of_methodNamed B.named
  have hlocks := B.notSynchronized
  subst hsz
  have hD := hD0.self (sz := s.heap.size)
  generalize hAe : va_A [(fa, .inl (g 0, 193, .inl ff)), (ta, .inl (g 0, 386, .inl tf))] s.heap.size = A at hD ⊢
  have hA : ∀ q : Nat, s.heap.size ≤ q → A q := fun q h => by rw [← hAe]; exact Or.inr h
  have hS : va_S A s.heap s.heap [] := va_S.rf
  have hP : va_P D vwCl [(fa, .inl (g 0, 193, .inl ff)), (ta, .inl (g 0, 386, .inl tf))] s.heap := hP
  refine W.eq (g2 := entryFrame m ([.ref fa, .int p1, .ref ta, .int p3] : List Value).toArray 5) (by rw [ha]) ?_
  have hl := lv_entry ([.ref fa, .int p1, .ref ta, .int p3]) (n := 5) (Nat.le_of_ble_eq_true rfl)
  rw [lg_entry_eq]
  generalize (lg_sl ([.ref fa, .int p1, .ref ta, .int p3]) ++ List.replicate (5 - (lg_sl ([.ref fa, .int p1, .ref ta, .int p3])).length) Slot.unset).toArray = ls at hl ⊢
  have hl : lv_has ls 5 [(0, .ref fa), (1, .int p1), (2, .ref ta), (3, .int p3)] := hl
  refine lv_iconst (v := 0) hx hb dX12_copies_0 (by decide) ?_
  refine lv_istore (lv' := [(4, .int 0), (0, .ref fa), (1, .int p1), (2, .ref ta), (3, .int p3)]) hx hb dX12_copies_1 hl (by decide) rfl (fun ls hl => ?_)
  have lp_69325 : ∀ (n_69325 : Nat) (x_69323 : Int32) (f_69324 : Nat → Int32) (H : Heap) (locs : List Loc) (ls : Array Slot), (0 ≤ (x_69323 : Int32).toInt ∧ (x_69323 : Int32).toInt ≤ 193) → (f_69324 = va_cpy ff tf p1.toInt.toNat p3.toInt.toNat x_69323.toInt.toNat) → (193 - x_69323.toInt < (n_69325 : Int)) → va_P D vwCl [(fa, .inl (g 0, 193, .inl ff)), (ta, .inl (g 0, 386, .inl f_69324))] H → va_D A [(fa, .inl (g 0, 193, .inl ff)), (ta, .inl (g 0, 386, .inl f_69324))] → va_S A s.heap H locs → lv_has ls 5 [(4, .int x_69323), (0, .ref fa), (1, .int p1), (2, .ref ta), (3, .int p3)] → W p l e (headSpec (.code yX12_copies cX12_copies 5 none :: wsL_law) ({ frames := 0, cells := 0, slots := 0, locals := 0 })).room s m args below meth c H locs 0 0 (MQ below (va_Qv (fun (_ : Unit) => True) (fun _ t => ∃ otf : Nat → Int32, (otf = va_cpy ff tf (p1 : Int32).toInt.toNat (p3 : Int32).toInt.toNat 193) ∧ va_P D vwCl [(fa, .inl (g 0, 193, .inl ff)), (ta, .inl (g 0, 386, .inl otf))] t.heap ∧ va_D A [(fa, .inl (g 0, 193, .inl ff)), (ta, .inl (g 0, 386, .inl otf))]) A) args s 0 0 A) (F0 m 3 ls []) := by
    intro n_69325
    induction n_69325 with
    | zero =>
      intro x_69323 f_69324 H locs ls h_x_69323 hr69325_0 hm_69325 hP hD hS hl
      exfalso; omega
    | succ n_69325 ih_69325 =>
      intro x_69323 f_69324 H locs ls h_x_69323 hr69325_0 hm_69325 hP hD hS hl
      refine lv_iload hx hb dX12_copies_3 (lv_at hl 0 rfl) ?_
      refine lv_sipush (v := 193) hx hb dX12_copies_5 (by decide) ?_
      refine lv_icmp_ge (tgt := 29) hx hb dX12_copies_8 (by decide) (fun c_69326 => ?_) (fun c_69326 => ?_)
      · skip
        have kk_193 := tk_193
        have c_69326_i := Int32.le_iff_toInt_le.mp c_69326
        have c_69326_i := Int32.le_iff_toInt_le.mp c_69326
        have h_69327 : 193 ≤ (x_69323 : Int32).toInt ∧ (x_69323 : Int32).toInt ≤ 193 := by have q1 := h_x_69323; have q2 := (⟨by decide, by decide⟩ : 193 ≤ (193 : Int32).toInt ∧ (193 : Int32).toInt ≤ 193); omega
        have hP9 := hP.sub (ws' := [(fa, .inl (g 0, 193, .inl ff)), (ta, .inl (g 0, 386, .inl f_69324))]) [0, 1] rfl
        have hD9 := hD.sub (ws' := [(fa, .inl (g 0, 193, .inl ff)), (ta, .inl (g 0, 386, .inl f_69324))]) [0, 1] (by decide) rfl
        exact W.vret hx hb hr (fun t ht hW => ⟨⟨(), rfl, trivial, f_69324, (hr69325_0.trans (congrArg (va_cpy ff tf p1.toInt.toNat p3.toInt.toNat) (by have z_193 := tk_193; omega))), by rw [ht]; exact hP9, hD9⟩, hS.F ht⟩) hS.2.2 dX12_copies_29
      · skip
        have kk_193 := tk_193
        have c_69326_i := Int32.lt_iff_toInt_lt.mp (Int32.not_le.mp c_69326)
        have c_69326_i := Int32.lt_iff_toInt_lt.mp (Int32.not_le.mp c_69326)
        have h_69328 : 0 ≤ (x_69323 : Int32).toInt ∧ (x_69323 : Int32).toInt ≤ 192 := by have q1 := h_x_69323; have q2 := (⟨by decide, by decide⟩ : 193 ≤ (193 : Int32).toInt ∧ (193 : Int32).toInt ≤ 193); omega
        refine lv_aload_n hx hb dX12_copies_11 rfl (lv_at hl 3 rfl) ?_
        refine lv_iload_n hx hb dX12_copies_12 rfl (lv_at hl 4 rfl) ?_
        refine lv_iload hx hb dX12_copies_13 (lv_at hl 0 rfl) ?_
        refine lv_iadd hx hb dX12_copies_15 ?_
        refine lv_topi (fun v_69329 v_69329_e => ?_)
        have h_v_69329 : 0 ≤ (v_69329 : Int32).toInt ∧ (v_69329 : Int32).toInt ≤ 385 := by rw [v_69329_e]; exact tr_add h_p3 h_69328 (by decide) (by decide) (by decide) (by decide)
        have q_v_69329 : v_69329.toInt = p3.toInt + x_69323.toInt := by rw [v_69329_e]; exact tr_addX h_p3 h_69328 (by decide) (by decide)
        refine lv_aload_n hx hb dX12_copies_16 rfl (lv_at hl 1 rfl) ?_
        refine lv_iload_n hx hb dX12_copies_17 rfl (lv_at hl 2 rfl) ?_
        refine lv_iload hx hb dX12_copies_18 (lv_at hl 0 rfl) ?_
        refine lv_iadd hx hb dX12_copies_20 ?_
        refine lv_topi (fun v_69330 v_69330_e => ?_)
        have h_v_69330 : 0 ≤ (v_69330 : Int32).toInt ∧ (v_69330 : Int32).toInt ≤ 192 := by rw [v_69330_e]; exact tr_add h_p1 h_69328 (by decide) (by decide) (by decide) (by decide)
        have q_v_69330 : v_69330.toInt = p1.toInt + x_69323.toInt := by rw [v_69330_e]; exact tr_addX h_p1 h_69328 (by decide) (by decide)
        refine va_iald hx hb hK hP 0 0 rfl rfl (tr_in h_v_69330 (by decide) (by decide)) dX12_copies_21 ?_
        refine lv_topi (fun v_69331 v_69331_e => ?_)
        have g_v_69331 : v_69331 = ff (p1.toInt.toNat + x_69323.toInt.toNat) := v_69331_e.trans (congrArg ff (by show Int.toNat _ = _; omega))
        have gi_v_69331 := congrArg Int32.toInt g_v_69331
        refine va_iast hx hb hK hP hD hS 1 0 rfl rfl (tr_in h_v_69329 (by decide) (by decide)) dX12_copies_22 (fun H locs hP hD hS => ?_)
        obtain ⟨f_69332, f_69332_e, hP, hD⟩ : ∃ FX : Nat → Int32, FX = (upd f_69324 (v_69329 : Int32).toNatClampNeg v_69331) ∧ va_P D vwCl [(fa, .inl (g 0, 193, .inl ff)), (ta, .inl (g 0, 386, .inl FX))] H ∧ va_D A [(fa, .inl (g 0, 193, .inl ff)), (ta, .inl (g 0, 386, .inl FX))] := ⟨_, rfl, hP, hD⟩
        have hP : va_P D vwCl [(fa, .inl (g 0, 193, .inl ff)), (ta, .inl (g 0, 386, .inl f_69332))] H := hP
        have hD : va_D A [(fa, .inl (g 0, 193, .inl ff)), (ta, .inl (g 0, 386, .inl f_69332))] := hD
        obtain ⟨v_69333, v_69333_e⟩ : ∃ y : Int32, y = x_69323 + Int32.ofInt 1 := ⟨_, rfl⟩
        have h_v_69333 : 1 ≤ (v_69333 : Int32).toInt ∧ (v_69333 : Int32).toInt ≤ 193 := by rw [v_69333_e]; exact tr_add h_69328 (⟨by decide, by decide⟩ : 1 ≤ (Int32.ofInt 1 : Int32).toInt ∧ (Int32.ofInt 1 : Int32).toInt ≤ 1) (by decide) (by decide) (by decide) (by decide)
        have q_v_69333 : v_69333.toInt = x_69323.toInt + 1 := by rw [v_69333_e]; exact tr_addE h_69328 (⟨by decide, by decide⟩ : 1 ≤ (Int32.ofInt 1 : Int32).toInt ∧ (Int32.ofInt 1 : Int32).toInt ≤ 1) (by decide) (by decide)
        refine lv_iinc (v := v_69333) (lv' := [(4, .int v_69333), (0, .ref fa), (1, .int p1), (2, .ref ta), (3, .int p3)]) hx hb dX12_copies_23 hl (k := 0) rfl v_69333_e.symm (by decide) rfl (fun ls hl => ?_)
        refine lv_goto (tgt := 3) hx hb dX12_copies_26 (by decide) ?_
        exact ih_69325 v_69333 f_69332 H _ ls (tr_w h_v_69333 (by decide) (by decide)) (by rw [f_69332_e, show v_69333.toInt.toNat = _ + 1 from (by omega : _ = x_69323.toInt.toNat + 1)]; exact va_cpy_step hr69325_0 (by show Int.toNat _ = _; omega) g_v_69331) (by omega) (hP.sub [0, 1] rfl) (hD.sub [0, 1] (by decide) rfl) hS (lv_sub hl [0, 1, 2, 3, 4] rfl)
  exact lp_69325 194 0 tf s.heap _ ls (⟨by decide, by decide⟩ : 0 ≤ (0 : Int32).toInt ∧ (0 : Int32).toInt ≤ 193) (va_cpy_zero _ _ _ _) (by decide) (hP.sub [0, 1] rfl) (hD.sub [0, 1] (by decide) rfl) hS (lv_sub hl [0, 1, 2, 3, 4] rfl)
set_option maxHeartbeats 4000000 in
set_option maxRecDepth 100000 in
theorem c_X12_copiesU (l : Launch) (D : va_G) (g : Nat → ClassId) (sz : Nat) (fa : Nat) (p1 : Int32) (ta : Nat) (p3 : Int32) (ff : Nat → Int32) (tf : Nat → Int32) (h_p1 : 0 ≤ (p1 : Int32).toInt ∧ (p1 : Int32).toInt ≤ 0) (h_p3 : 0 ≤ (p3 : Int32).toInt ∧ (p3 : Int32).toInt ≤ 1351) : Met l yX12_copies (.code yX12_copies cX12_copies 5 none :: wsL_law) ({ frames := 0, cells := 0, slots := 0, locals := 0 }) (va_Pc [.ref fa, .int p1, .ref ta, .int p3] (fun U => U.heap.size = sz ∧ va_P D vwCl [(fa, .inl (g 0, 193, .inl ff)), (ta, .inl (g 0, 1544, .inl tf))] U.heap ∧ va_K D vwCl (TY g) U ∧ va_D (fun _ => True) [(fa, .inl (g 0, 193, .inl ff)), (ta, .inl (g 0, 1544, .inl tf))])) (va_Qv (fun (_ : Unit) => True) (fun _ t => ∃ otf : Nat → Int32, (otf = va_cpy ff tf (p1 : Int32).toInt.toNat (p3 : Int32).toInt.toNat 193) ∧ va_P D vwCl [(fa, .inl (g 0, 193, .inl ff)), (ta, .inl (g 0, 1544, .inl otf))] t.heap ∧ va_D (va_A [(fa, .inl (g 0, 193, .inl ff)), (ta, .inl (g 0, 1544, .inl tf))] sz) [(fa, .inl (g 0, 193, .inl ff)), (ta, .inl (g 0, 1544, .inl otf))]) (va_A [(fa, .inl (g 0, 193, .inl ff)), (ta, .inl (g 0, 1544, .inl tf))] sz)) 0 0 (va_A [(fa, .inl (g 0, 193, .inl ff)), (ta, .inl (g 0, 1544, .inl tf))] sz) := by
  refine Met.ofW (cc := cX12_copies) (maxL := 5) (ret := none) (by decide) rfl ?_
  intro p e s m args below meth c s₁ B hml hv
  obtain ⟨ha, hsz, hP, hK, hD0⟩ := hv
  have hx := B.exec
  have hb := B.bytes
  have hr := B.returns
  have hts0 := atoms_spec (ws := (.code yX12_copies cX12_copies 5 none :: wsL_law)) B.pre
  have hts : ∀ w ∈ wsL_law, w.before args s = true := fun w h => hts0 w (List.mem_cons_of_mem _ h)
  have hown : s.vm.findClass RX12 = some m.cls := findClass_of_methodNamed B.named
  have hlocks := B.notSynchronized
  subst hsz
  have hD := hD0.self (sz := s.heap.size)
  generalize hAe : va_A [(fa, .inl (g 0, 193, .inl ff)), (ta, .inl (g 0, 1544, .inl tf))] s.heap.size = A at hD ⊢
  have hA : ∀ q : Nat, s.heap.size ≤ q → A q := fun q h => by rw [← hAe]; exact Or.inr h
  have hS : va_S A s.heap s.heap [] := va_S.rf
  have hP : va_P D vwCl [(fa, .inl (g 0, 193, .inl ff)), (ta, .inl (g 0, 1544, .inl tf))] s.heap := hP
  refine W.eq (g2 := entryFrame m ([.ref fa, .int p1, .ref ta, .int p3] : List Value).toArray 5) (by rw [ha]) ?_
  have hl := lv_entry ([.ref fa, .int p1, .ref ta, .int p3]) (n := 5) (Nat.le_of_ble_eq_true rfl)
  rw [lg_entry_eq]
  generalize (lg_sl ([.ref fa, .int p1, .ref ta, .int p3]) ++ List.replicate (5 - (lg_sl ([.ref fa, .int p1, .ref ta, .int p3])).length) Slot.unset).toArray = ls at hl ⊢
  have hl : lv_has ls 5 [(0, .ref fa), (1, .int p1), (2, .ref ta), (3, .int p3)] := hl
  refine lv_iconst (v := 0) hx hb dX12_copies_0 (by decide) ?_
  refine lv_istore (lv' := [(4, .int 0), (0, .ref fa), (1, .int p1), (2, .ref ta), (3, .int p3)]) hx hb dX12_copies_1 hl (by decide) rfl (fun ls hl => ?_)
  have lp_69355 : ∀ (n_69355 : Nat) (x_69353 : Int32) (f_69354 : Nat → Int32) (H : Heap) (locs : List Loc) (ls : Array Slot), (0 ≤ (x_69353 : Int32).toInt ∧ (x_69353 : Int32).toInt ≤ 193) → (f_69354 = va_cpy ff tf p1.toInt.toNat p3.toInt.toNat x_69353.toInt.toNat) → (193 - x_69353.toInt < (n_69355 : Int)) → va_P D vwCl [(fa, .inl (g 0, 193, .inl ff)), (ta, .inl (g 0, 1544, .inl f_69354))] H → va_D A [(fa, .inl (g 0, 193, .inl ff)), (ta, .inl (g 0, 1544, .inl f_69354))] → va_S A s.heap H locs → lv_has ls 5 [(4, .int x_69353), (0, .ref fa), (1, .int p1), (2, .ref ta), (3, .int p3)] → W p l e (headSpec (.code yX12_copies cX12_copies 5 none :: wsL_law) ({ frames := 0, cells := 0, slots := 0, locals := 0 })).room s m args below meth c H locs 0 0 (MQ below (va_Qv (fun (_ : Unit) => True) (fun _ t => ∃ otf : Nat → Int32, (otf = va_cpy ff tf (p1 : Int32).toInt.toNat (p3 : Int32).toInt.toNat 193) ∧ va_P D vwCl [(fa, .inl (g 0, 193, .inl ff)), (ta, .inl (g 0, 1544, .inl otf))] t.heap ∧ va_D A [(fa, .inl (g 0, 193, .inl ff)), (ta, .inl (g 0, 1544, .inl otf))]) A) args s 0 0 A) (F0 m 3 ls []) := by
    intro n_69355
    induction n_69355 with
    | zero =>
      intro x_69353 f_69354 H locs ls h_x_69353 hr69355_0 hm_69355 hP hD hS hl
      exfalso; omega
    | succ n_69355 ih_69355 =>
      intro x_69353 f_69354 H locs ls h_x_69353 hr69355_0 hm_69355 hP hD hS hl
      refine lv_iload hx hb dX12_copies_3 (lv_at hl 0 rfl) ?_
      refine lv_sipush (v := 193) hx hb dX12_copies_5 (by decide) ?_
      refine lv_icmp_ge (tgt := 29) hx hb dX12_copies_8 (by decide) (fun c_69356 => ?_) (fun c_69356 => ?_)
      · skip
        have kk_193 := tk_193
        have c_69356_i := Int32.le_iff_toInt_le.mp c_69356
        have c_69356_i := Int32.le_iff_toInt_le.mp c_69356
        have h_69357 : 193 ≤ (x_69353 : Int32).toInt ∧ (x_69353 : Int32).toInt ≤ 193 := by have q1 := h_x_69353; have q2 := (⟨by decide, by decide⟩ : 193 ≤ (193 : Int32).toInt ∧ (193 : Int32).toInt ≤ 193); omega
        have hP9 := hP.sub (ws' := [(fa, .inl (g 0, 193, .inl ff)), (ta, .inl (g 0, 1544, .inl f_69354))]) [0, 1] rfl
        have hD9 := hD.sub (ws' := [(fa, .inl (g 0, 193, .inl ff)), (ta, .inl (g 0, 1544, .inl f_69354))]) [0, 1] (by decide) rfl
        exact W.vret hx hb hr (fun t ht hW => ⟨⟨(), rfl, trivial, f_69354, (hr69355_0.trans (congrArg (va_cpy ff tf p1.toInt.toNat p3.toInt.toNat) (by have z_193 := tk_193; omega))), by rw [ht]; exact hP9, hD9⟩, hS.F ht⟩) hS.2.2 dX12_copies_29
      · skip
        have kk_193 := tk_193
        have c_69356_i := Int32.lt_iff_toInt_lt.mp (Int32.not_le.mp c_69356)
        have c_69356_i := Int32.lt_iff_toInt_lt.mp (Int32.not_le.mp c_69356)
        have h_69358 : 0 ≤ (x_69353 : Int32).toInt ∧ (x_69353 : Int32).toInt ≤ 192 := by have q1 := h_x_69353; have q2 := (⟨by decide, by decide⟩ : 193 ≤ (193 : Int32).toInt ∧ (193 : Int32).toInt ≤ 193); omega
        refine lv_aload_n hx hb dX12_copies_11 rfl (lv_at hl 3 rfl) ?_
        refine lv_iload_n hx hb dX12_copies_12 rfl (lv_at hl 4 rfl) ?_
        refine lv_iload hx hb dX12_copies_13 (lv_at hl 0 rfl) ?_
        refine lv_iadd hx hb dX12_copies_15 ?_
        refine lv_topi (fun v_69359 v_69359_e => ?_)
        have h_v_69359 : 0 ≤ (v_69359 : Int32).toInt ∧ (v_69359 : Int32).toInt ≤ 1543 := by rw [v_69359_e]; exact tr_add h_p3 h_69358 (by decide) (by decide) (by decide) (by decide)
        have q_v_69359 : v_69359.toInt = p3.toInt + x_69353.toInt := by rw [v_69359_e]; exact tr_addX h_p3 h_69358 (by decide) (by decide)
        refine lv_aload_n hx hb dX12_copies_16 rfl (lv_at hl 1 rfl) ?_
        refine lv_iload_n hx hb dX12_copies_17 rfl (lv_at hl 2 rfl) ?_
        refine lv_iload hx hb dX12_copies_18 (lv_at hl 0 rfl) ?_
        refine lv_iadd hx hb dX12_copies_20 ?_
        refine lv_topi (fun v_69360 v_69360_e => ?_)
        have h_v_69360 : 0 ≤ (v_69360 : Int32).toInt ∧ (v_69360 : Int32).toInt ≤ 192 := by rw [v_69360_e]; exact tr_add h_p1 h_69358 (by decide) (by decide) (by decide) (by decide)
        have q_v_69360 : v_69360.toInt = p1.toInt + x_69353.toInt := by rw [v_69360_e]; exact tr_addX h_p1 h_69358 (by decide) (by decide)
        refine va_iald hx hb hK hP 0 0 rfl rfl (tr_in h_v_69360 (by decide) (by decide)) dX12_copies_21 ?_
        refine lv_topi (fun v_69361 v_69361_e => ?_)
        have g_v_69361 : v_69361 = ff (p1.toInt.toNat + x_69353.toInt.toNat) := v_69361_e.trans (congrArg ff (by show Int.toNat _ = _; omega))
        have gi_v_69361 := congrArg Int32.toInt g_v_69361
        refine va_iast hx hb hK hP hD hS 1 0 rfl rfl (tr_in h_v_69359 (by decide) (by decide)) dX12_copies_22 (fun H locs hP hD hS => ?_)
        obtain ⟨f_69362, f_69362_e, hP, hD⟩ : ∃ FX : Nat → Int32, FX = (upd f_69354 (v_69359 : Int32).toNatClampNeg v_69361) ∧ va_P D vwCl [(fa, .inl (g 0, 193, .inl ff)), (ta, .inl (g 0, 1544, .inl FX))] H ∧ va_D A [(fa, .inl (g 0, 193, .inl ff)), (ta, .inl (g 0, 1544, .inl FX))] := ⟨_, rfl, hP, hD⟩
        have hP : va_P D vwCl [(fa, .inl (g 0, 193, .inl ff)), (ta, .inl (g 0, 1544, .inl f_69362))] H := hP
        have hD : va_D A [(fa, .inl (g 0, 193, .inl ff)), (ta, .inl (g 0, 1544, .inl f_69362))] := hD
        obtain ⟨v_69363, v_69363_e⟩ : ∃ y : Int32, y = x_69353 + Int32.ofInt 1 := ⟨_, rfl⟩
        have h_v_69363 : 1 ≤ (v_69363 : Int32).toInt ∧ (v_69363 : Int32).toInt ≤ 193 := by rw [v_69363_e]; exact tr_add h_69358 (⟨by decide, by decide⟩ : 1 ≤ (Int32.ofInt 1 : Int32).toInt ∧ (Int32.ofInt 1 : Int32).toInt ≤ 1) (by decide) (by decide) (by decide) (by decide)
        have q_v_69363 : v_69363.toInt = x_69353.toInt + 1 := by rw [v_69363_e]; exact tr_addE h_69358 (⟨by decide, by decide⟩ : 1 ≤ (Int32.ofInt 1 : Int32).toInt ∧ (Int32.ofInt 1 : Int32).toInt ≤ 1) (by decide) (by decide)
        refine lv_iinc (v := v_69363) (lv' := [(4, .int v_69363), (0, .ref fa), (1, .int p1), (2, .ref ta), (3, .int p3)]) hx hb dX12_copies_23 hl (k := 0) rfl v_69363_e.symm (by decide) rfl (fun ls hl => ?_)
        refine lv_goto (tgt := 3) hx hb dX12_copies_26 (by decide) ?_
        exact ih_69355 v_69363 f_69362 H _ ls (tr_w h_v_69363 (by decide) (by decide)) (by rw [f_69362_e, show v_69363.toInt.toNat = _ + 1 from (by omega : _ = x_69353.toInt.toNat + 1)]; exact va_cpy_step hr69355_0 (by show Int.toNat _ = _; omega) g_v_69361) (by omega) (hP.sub [0, 1] rfl) (hD.sub [0, 1] (by decide) rfl) hS (lv_sub hl [0, 1, 2, 3, 4] rfl)
  exact lp_69355 194 0 tf s.heap _ ls (⟨by decide, by decide⟩ : 0 ≤ (0 : Int32).toInt ∧ (0 : Int32).toInt ≤ 193) (va_cpy_zero _ _ _ _) (by decide) (hP.sub [0, 1] rfl) (hD.sub [0, 1] (by decide) rfl) hS (lv_sub hl [0, 1, 2, 3, 4] rfl)
set_option maxHeartbeats 4000000 in
set_option maxRecDepth 100000 in
theorem c_X12_copiesR (l : Launch) (D : va_G) (g : Nat → ClassId) (sz : Nat) (fa : Nat) (p1 : Int32) (ta : Nat) (p3 : Int32) (ff : Nat → Int32) (tf : Nat → Int32) (h_p1 : 0 ≤ (p1 : Int32).toInt ∧ (p1 : Int32).toInt ≤ 193) (h_p3 : 0 ≤ (p3 : Int32).toInt ∧ (p3 : Int32).toInt ≤ 0) : Met l yX12_copies (.code yX12_copies cX12_copies 5 none :: wsL_law) ({ frames := 0, cells := 0, slots := 0, locals := 0 }) (va_Pc [.ref fa, .int p1, .ref ta, .int p3] (fun U => U.heap.size = sz ∧ va_P D vwCl [(fa, .inl (g 0, 386, .inl ff)), (ta, .inl (g 0, 193, .inl tf))] U.heap ∧ va_K D vwCl (TY g) U ∧ va_D (fun _ => True) [(fa, .inl (g 0, 386, .inl ff)), (ta, .inl (g 0, 193, .inl tf))])) (va_Qv (fun (_ : Unit) => True) (fun _ t => ∃ otf : Nat → Int32, (otf = va_cpy ff tf (p1 : Int32).toInt.toNat (p3 : Int32).toInt.toNat 193) ∧ va_P D vwCl [(fa, .inl (g 0, 386, .inl ff)), (ta, .inl (g 0, 193, .inl otf))] t.heap ∧ va_D (va_A [(fa, .inl (g 0, 386, .inl ff)), (ta, .inl (g 0, 193, .inl tf))] sz) [(fa, .inl (g 0, 386, .inl ff)), (ta, .inl (g 0, 193, .inl otf))]) (va_A [(fa, .inl (g 0, 386, .inl ff)), (ta, .inl (g 0, 193, .inl tf))] sz)) 0 0 (va_A [(fa, .inl (g 0, 386, .inl ff)), (ta, .inl (g 0, 193, .inl tf))] sz) := by
  refine Met.ofW (cc := cX12_copies) (maxL := 5) (ret := none) (by decide) rfl ?_
  intro p e s m args below meth c s₁ B hml hv
  obtain ⟨ha, hsz, hP, hK, hD0⟩ := hv
  have hx := B.exec
  have hb := B.bytes
  have hr := B.returns
  have hts0 := atoms_spec (ws := (.code yX12_copies cX12_copies 5 none :: wsL_law)) B.pre
  have hts : ∀ w ∈ wsL_law, w.before args s = true := fun w h => hts0 w (List.mem_cons_of_mem _ h)
  have hown : s.vm.findClass RX12 = some m.cls := findClass_of_methodNamed B.named
  have hlocks := B.notSynchronized
  subst hsz
  have hD := hD0.self (sz := s.heap.size)
  generalize hAe : va_A [(fa, .inl (g 0, 386, .inl ff)), (ta, .inl (g 0, 193, .inl tf))] s.heap.size = A at hD ⊢
  have hA : ∀ q : Nat, s.heap.size ≤ q → A q := fun q h => by rw [← hAe]; exact Or.inr h
  have hS : va_S A s.heap s.heap [] := va_S.rf
  have hP : va_P D vwCl [(fa, .inl (g 0, 386, .inl ff)), (ta, .inl (g 0, 193, .inl tf))] s.heap := hP
  refine W.eq (g2 := entryFrame m ([.ref fa, .int p1, .ref ta, .int p3] : List Value).toArray 5) (by rw [ha]) ?_
  have hl := lv_entry ([.ref fa, .int p1, .ref ta, .int p3]) (n := 5) (Nat.le_of_ble_eq_true rfl)
  rw [lg_entry_eq]
  generalize (lg_sl ([.ref fa, .int p1, .ref ta, .int p3]) ++ List.replicate (5 - (lg_sl ([.ref fa, .int p1, .ref ta, .int p3])).length) Slot.unset).toArray = ls at hl ⊢
  have hl : lv_has ls 5 [(0, .ref fa), (1, .int p1), (2, .ref ta), (3, .int p3)] := hl
  refine lv_iconst (v := 0) hx hb dX12_copies_0 (by decide) ?_
  refine lv_istore (lv' := [(4, .int 0), (0, .ref fa), (1, .int p1), (2, .ref ta), (3, .int p3)]) hx hb dX12_copies_1 hl (by decide) rfl (fun ls hl => ?_)
  have lp_69385 : ∀ (n_69385 : Nat) (x_69383 : Int32) (f_69384 : Nat → Int32) (H : Heap) (locs : List Loc) (ls : Array Slot), (0 ≤ (x_69383 : Int32).toInt ∧ (x_69383 : Int32).toInt ≤ 193) → (f_69384 = va_cpy ff tf p1.toInt.toNat p3.toInt.toNat x_69383.toInt.toNat) → (193 - x_69383.toInt < (n_69385 : Int)) → va_P D vwCl [(fa, .inl (g 0, 386, .inl ff)), (ta, .inl (g 0, 193, .inl f_69384))] H → va_D A [(fa, .inl (g 0, 386, .inl ff)), (ta, .inl (g 0, 193, .inl f_69384))] → va_S A s.heap H locs → lv_has ls 5 [(4, .int x_69383), (0, .ref fa), (1, .int p1), (2, .ref ta), (3, .int p3)] → W p l e (headSpec (.code yX12_copies cX12_copies 5 none :: wsL_law) ({ frames := 0, cells := 0, slots := 0, locals := 0 })).room s m args below meth c H locs 0 0 (MQ below (va_Qv (fun (_ : Unit) => True) (fun _ t => ∃ otf : Nat → Int32, (otf = va_cpy ff tf (p1 : Int32).toInt.toNat (p3 : Int32).toInt.toNat 193) ∧ va_P D vwCl [(fa, .inl (g 0, 386, .inl ff)), (ta, .inl (g 0, 193, .inl otf))] t.heap ∧ va_D A [(fa, .inl (g 0, 386, .inl ff)), (ta, .inl (g 0, 193, .inl otf))]) A) args s 0 0 A) (F0 m 3 ls []) := by
    intro n_69385
    induction n_69385 with
    | zero =>
      intro x_69383 f_69384 H locs ls h_x_69383 hr69385_0 hm_69385 hP hD hS hl
      exfalso; omega
    | succ n_69385 ih_69385 =>
      intro x_69383 f_69384 H locs ls h_x_69383 hr69385_0 hm_69385 hP hD hS hl
      refine lv_iload hx hb dX12_copies_3 (lv_at hl 0 rfl) ?_
      refine lv_sipush (v := 193) hx hb dX12_copies_5 (by decide) ?_
      refine lv_icmp_ge (tgt := 29) hx hb dX12_copies_8 (by decide) (fun c_69386 => ?_) (fun c_69386 => ?_)
      · skip
        have kk_193 := tk_193
        have c_69386_i := Int32.le_iff_toInt_le.mp c_69386
        have c_69386_i := Int32.le_iff_toInt_le.mp c_69386
        have h_69387 : 193 ≤ (x_69383 : Int32).toInt ∧ (x_69383 : Int32).toInt ≤ 193 := by have q1 := h_x_69383; have q2 := (⟨by decide, by decide⟩ : 193 ≤ (193 : Int32).toInt ∧ (193 : Int32).toInt ≤ 193); omega
        have hP9 := hP.sub (ws' := [(fa, .inl (g 0, 386, .inl ff)), (ta, .inl (g 0, 193, .inl f_69384))]) [0, 1] rfl
        have hD9 := hD.sub (ws' := [(fa, .inl (g 0, 386, .inl ff)), (ta, .inl (g 0, 193, .inl f_69384))]) [0, 1] (by decide) rfl
        exact W.vret hx hb hr (fun t ht hW => ⟨⟨(), rfl, trivial, f_69384, (hr69385_0.trans (congrArg (va_cpy ff tf p1.toInt.toNat p3.toInt.toNat) (by have z_193 := tk_193; omega))), by rw [ht]; exact hP9, hD9⟩, hS.F ht⟩) hS.2.2 dX12_copies_29
      · skip
        have kk_193 := tk_193
        have c_69386_i := Int32.lt_iff_toInt_lt.mp (Int32.not_le.mp c_69386)
        have c_69386_i := Int32.lt_iff_toInt_lt.mp (Int32.not_le.mp c_69386)
        have h_69388 : 0 ≤ (x_69383 : Int32).toInt ∧ (x_69383 : Int32).toInt ≤ 192 := by have q1 := h_x_69383; have q2 := (⟨by decide, by decide⟩ : 193 ≤ (193 : Int32).toInt ∧ (193 : Int32).toInt ≤ 193); omega
        refine lv_aload_n hx hb dX12_copies_11 rfl (lv_at hl 3 rfl) ?_
        refine lv_iload_n hx hb dX12_copies_12 rfl (lv_at hl 4 rfl) ?_
        refine lv_iload hx hb dX12_copies_13 (lv_at hl 0 rfl) ?_
        refine lv_iadd hx hb dX12_copies_15 ?_
        refine lv_topi (fun v_69389 v_69389_e => ?_)
        have h_v_69389 : 0 ≤ (v_69389 : Int32).toInt ∧ (v_69389 : Int32).toInt ≤ 192 := by rw [v_69389_e]; exact tr_add h_p3 h_69388 (by decide) (by decide) (by decide) (by decide)
        have q_v_69389 : v_69389.toInt = p3.toInt + x_69383.toInt := by rw [v_69389_e]; exact tr_addX h_p3 h_69388 (by decide) (by decide)
        refine lv_aload_n hx hb dX12_copies_16 rfl (lv_at hl 1 rfl) ?_
        refine lv_iload_n hx hb dX12_copies_17 rfl (lv_at hl 2 rfl) ?_
        refine lv_iload hx hb dX12_copies_18 (lv_at hl 0 rfl) ?_
        refine lv_iadd hx hb dX12_copies_20 ?_
        refine lv_topi (fun v_69390 v_69390_e => ?_)
        have h_v_69390 : 0 ≤ (v_69390 : Int32).toInt ∧ (v_69390 : Int32).toInt ≤ 385 := by rw [v_69390_e]; exact tr_add h_p1 h_69388 (by decide) (by decide) (by decide) (by decide)
        have q_v_69390 : v_69390.toInt = p1.toInt + x_69383.toInt := by rw [v_69390_e]; exact tr_addX h_p1 h_69388 (by decide) (by decide)
        refine va_iald hx hb hK hP 0 0 rfl rfl (tr_in h_v_69390 (by decide) (by decide)) dX12_copies_21 ?_
        refine lv_topi (fun v_69391 v_69391_e => ?_)
        have g_v_69391 : v_69391 = ff (p1.toInt.toNat + x_69383.toInt.toNat) := v_69391_e.trans (congrArg ff (by show Int.toNat _ = _; omega))
        have gi_v_69391 := congrArg Int32.toInt g_v_69391
        refine va_iast hx hb hK hP hD hS 1 0 rfl rfl (tr_in h_v_69389 (by decide) (by decide)) dX12_copies_22 (fun H locs hP hD hS => ?_)
        obtain ⟨f_69392, f_69392_e, hP, hD⟩ : ∃ FX : Nat → Int32, FX = (upd f_69384 (v_69389 : Int32).toNatClampNeg v_69391) ∧ va_P D vwCl [(fa, .inl (g 0, 386, .inl ff)), (ta, .inl (g 0, 193, .inl FX))] H ∧ va_D A [(fa, .inl (g 0, 386, .inl ff)), (ta, .inl (g 0, 193, .inl FX))] := ⟨_, rfl, hP, hD⟩
        have hP : va_P D vwCl [(fa, .inl (g 0, 386, .inl ff)), (ta, .inl (g 0, 193, .inl f_69392))] H := hP
        have hD : va_D A [(fa, .inl (g 0, 386, .inl ff)), (ta, .inl (g 0, 193, .inl f_69392))] := hD
        obtain ⟨v_69393, v_69393_e⟩ : ∃ y : Int32, y = x_69383 + Int32.ofInt 1 := ⟨_, rfl⟩
        have h_v_69393 : 1 ≤ (v_69393 : Int32).toInt ∧ (v_69393 : Int32).toInt ≤ 193 := by rw [v_69393_e]; exact tr_add h_69388 (⟨by decide, by decide⟩ : 1 ≤ (Int32.ofInt 1 : Int32).toInt ∧ (Int32.ofInt 1 : Int32).toInt ≤ 1) (by decide) (by decide) (by decide) (by decide)
        have q_v_69393 : v_69393.toInt = x_69383.toInt + 1 := by rw [v_69393_e]; exact tr_addE h_69388 (⟨by decide, by decide⟩ : 1 ≤ (Int32.ofInt 1 : Int32).toInt ∧ (Int32.ofInt 1 : Int32).toInt ≤ 1) (by decide) (by decide)
        refine lv_iinc (v := v_69393) (lv' := [(4, .int v_69393), (0, .ref fa), (1, .int p1), (2, .ref ta), (3, .int p3)]) hx hb dX12_copies_23 hl (k := 0) rfl v_69393_e.symm (by decide) rfl (fun ls hl => ?_)
        refine lv_goto (tgt := 3) hx hb dX12_copies_26 (by decide) ?_
        exact ih_69385 v_69393 f_69392 H _ ls (tr_w h_v_69393 (by decide) (by decide)) (by rw [f_69392_e, show v_69393.toInt.toNat = _ + 1 from (by omega : _ = x_69383.toInt.toNat + 1)]; exact va_cpy_step hr69385_0 (by show Int.toNat _ = _; omega) g_v_69391) (by omega) (hP.sub [0, 1] rfl) (hD.sub [0, 1] (by decide) rfl) hS (lv_sub hl [0, 1, 2, 3, 4] rfl)
  exact lp_69385 194 0 tf s.heap _ ls (⟨by decide, by decide⟩ : 0 ≤ (0 : Int32).toInt ∧ (0 : Int32).toInt ≤ 193) (va_cpy_zero _ _ _ _) (by decide) (hP.sub [0, 1] rfl) (hD.sub [0, 1] (by decide) rfl) hS (lv_sub hl [0, 1, 2, 3, 4] rfl)
set_option maxHeartbeats 4000000 in
set_option maxRecDepth 100000 in
theorem c_X12_copiesB (l : Launch) (D : va_G) (g : Nat → ClassId) (sz : Nat) (fa : Nat) (p1 : Int32) (ta : Nat) (p3 : Int32) (ff : Nat → Int32) (tf : Nat → Int32) (h_p1 : 0 ≤ (p1 : Int32).toInt ∧ (p1 : Int32).toInt ≤ 1351) (h_p3 : 0 ≤ (p3 : Int32).toInt ∧ (p3 : Int32).toInt ≤ 0) : Met l yX12_copies (.code yX12_copies cX12_copies 5 none :: wsL_law) ({ frames := 0, cells := 0, slots := 0, locals := 0 }) (va_Pc [.ref fa, .int p1, .ref ta, .int p3] (fun U => U.heap.size = sz ∧ va_P D vwCl [(fa, .inl (g 0, 1544, .inl ff)), (ta, .inl (g 0, 193, .inl tf))] U.heap ∧ va_K D vwCl (TY g) U ∧ va_D (fun _ => True) [(fa, .inl (g 0, 1544, .inl ff)), (ta, .inl (g 0, 193, .inl tf))])) (va_Qv (fun (_ : Unit) => True) (fun _ t => ∃ otf : Nat → Int32, (otf = va_cpy ff tf (p1 : Int32).toInt.toNat (p3 : Int32).toInt.toNat 193) ∧ va_P D vwCl [(fa, .inl (g 0, 1544, .inl ff)), (ta, .inl (g 0, 193, .inl otf))] t.heap ∧ va_D (va_A [(fa, .inl (g 0, 1544, .inl ff)), (ta, .inl (g 0, 193, .inl tf))] sz) [(fa, .inl (g 0, 1544, .inl ff)), (ta, .inl (g 0, 193, .inl otf))]) (va_A [(fa, .inl (g 0, 1544, .inl ff)), (ta, .inl (g 0, 193, .inl tf))] sz)) 0 0 (va_A [(fa, .inl (g 0, 1544, .inl ff)), (ta, .inl (g 0, 193, .inl tf))] sz) := by
  refine Met.ofW (cc := cX12_copies) (maxL := 5) (ret := none) (by decide) rfl ?_
  intro p e s m args below meth c s₁ B hml hv
  obtain ⟨ha, hsz, hP, hK, hD0⟩ := hv
  have hx := B.exec
  have hb := B.bytes
  have hr := B.returns
  have hts0 := atoms_spec (ws := (.code yX12_copies cX12_copies 5 none :: wsL_law)) B.pre
  have hts : ∀ w ∈ wsL_law, w.before args s = true := fun w h => hts0 w (List.mem_cons_of_mem _ h)
  have hown : s.vm.findClass RX12 = some m.cls := findClass_of_methodNamed B.named
  have hlocks := B.notSynchronized
  subst hsz
  have hD := hD0.self (sz := s.heap.size)
  generalize hAe : va_A [(fa, .inl (g 0, 1544, .inl ff)), (ta, .inl (g 0, 193, .inl tf))] s.heap.size = A at hD ⊢
  have hA : ∀ q : Nat, s.heap.size ≤ q → A q := fun q h => by rw [← hAe]; exact Or.inr h
  have hS : va_S A s.heap s.heap [] := va_S.rf
  have hP : va_P D vwCl [(fa, .inl (g 0, 1544, .inl ff)), (ta, .inl (g 0, 193, .inl tf))] s.heap := hP
  refine W.eq (g2 := entryFrame m ([.ref fa, .int p1, .ref ta, .int p3] : List Value).toArray 5) (by rw [ha]) ?_
  have hl := lv_entry ([.ref fa, .int p1, .ref ta, .int p3]) (n := 5) (Nat.le_of_ble_eq_true rfl)
  rw [lg_entry_eq]
  generalize (lg_sl ([.ref fa, .int p1, .ref ta, .int p3]) ++ List.replicate (5 - (lg_sl ([.ref fa, .int p1, .ref ta, .int p3])).length) Slot.unset).toArray = ls at hl ⊢
  have hl : lv_has ls 5 [(0, .ref fa), (1, .int p1), (2, .ref ta), (3, .int p3)] := hl
  refine lv_iconst (v := 0) hx hb dX12_copies_0 (by decide) ?_
  refine lv_istore (lv' := [(4, .int 0), (0, .ref fa), (1, .int p1), (2, .ref ta), (3, .int p3)]) hx hb dX12_copies_1 hl (by decide) rfl (fun ls hl => ?_)
  have lp_69415 : ∀ (n_69415 : Nat) (x_69413 : Int32) (f_69414 : Nat → Int32) (H : Heap) (locs : List Loc) (ls : Array Slot), (0 ≤ (x_69413 : Int32).toInt ∧ (x_69413 : Int32).toInt ≤ 193) → (f_69414 = va_cpy ff tf p1.toInt.toNat p3.toInt.toNat x_69413.toInt.toNat) → (193 - x_69413.toInt < (n_69415 : Int)) → va_P D vwCl [(fa, .inl (g 0, 1544, .inl ff)), (ta, .inl (g 0, 193, .inl f_69414))] H → va_D A [(fa, .inl (g 0, 1544, .inl ff)), (ta, .inl (g 0, 193, .inl f_69414))] → va_S A s.heap H locs → lv_has ls 5 [(4, .int x_69413), (0, .ref fa), (1, .int p1), (2, .ref ta), (3, .int p3)] → W p l e (headSpec (.code yX12_copies cX12_copies 5 none :: wsL_law) ({ frames := 0, cells := 0, slots := 0, locals := 0 })).room s m args below meth c H locs 0 0 (MQ below (va_Qv (fun (_ : Unit) => True) (fun _ t => ∃ otf : Nat → Int32, (otf = va_cpy ff tf (p1 : Int32).toInt.toNat (p3 : Int32).toInt.toNat 193) ∧ va_P D vwCl [(fa, .inl (g 0, 1544, .inl ff)), (ta, .inl (g 0, 193, .inl otf))] t.heap ∧ va_D A [(fa, .inl (g 0, 1544, .inl ff)), (ta, .inl (g 0, 193, .inl otf))]) A) args s 0 0 A) (F0 m 3 ls []) := by
    intro n_69415
    induction n_69415 with
    | zero =>
      intro x_69413 f_69414 H locs ls h_x_69413 hr69415_0 hm_69415 hP hD hS hl
      exfalso; omega
    | succ n_69415 ih_69415 =>
      intro x_69413 f_69414 H locs ls h_x_69413 hr69415_0 hm_69415 hP hD hS hl
      refine lv_iload hx hb dX12_copies_3 (lv_at hl 0 rfl) ?_
      refine lv_sipush (v := 193) hx hb dX12_copies_5 (by decide) ?_
      refine lv_icmp_ge (tgt := 29) hx hb dX12_copies_8 (by decide) (fun c_69416 => ?_) (fun c_69416 => ?_)
      · skip
        have kk_193 := tk_193
        have c_69416_i := Int32.le_iff_toInt_le.mp c_69416
        have c_69416_i := Int32.le_iff_toInt_le.mp c_69416
        have h_69417 : 193 ≤ (x_69413 : Int32).toInt ∧ (x_69413 : Int32).toInt ≤ 193 := by have q1 := h_x_69413; have q2 := (⟨by decide, by decide⟩ : 193 ≤ (193 : Int32).toInt ∧ (193 : Int32).toInt ≤ 193); omega
        have hP9 := hP.sub (ws' := [(fa, .inl (g 0, 1544, .inl ff)), (ta, .inl (g 0, 193, .inl f_69414))]) [0, 1] rfl
        have hD9 := hD.sub (ws' := [(fa, .inl (g 0, 1544, .inl ff)), (ta, .inl (g 0, 193, .inl f_69414))]) [0, 1] (by decide) rfl
        exact W.vret hx hb hr (fun t ht hW => ⟨⟨(), rfl, trivial, f_69414, (hr69415_0.trans (congrArg (va_cpy ff tf p1.toInt.toNat p3.toInt.toNat) (by have z_193 := tk_193; omega))), by rw [ht]; exact hP9, hD9⟩, hS.F ht⟩) hS.2.2 dX12_copies_29
      · skip
        have kk_193 := tk_193
        have c_69416_i := Int32.lt_iff_toInt_lt.mp (Int32.not_le.mp c_69416)
        have c_69416_i := Int32.lt_iff_toInt_lt.mp (Int32.not_le.mp c_69416)
        have h_69418 : 0 ≤ (x_69413 : Int32).toInt ∧ (x_69413 : Int32).toInt ≤ 192 := by have q1 := h_x_69413; have q2 := (⟨by decide, by decide⟩ : 193 ≤ (193 : Int32).toInt ∧ (193 : Int32).toInt ≤ 193); omega
        refine lv_aload_n hx hb dX12_copies_11 rfl (lv_at hl 3 rfl) ?_
        refine lv_iload_n hx hb dX12_copies_12 rfl (lv_at hl 4 rfl) ?_
        refine lv_iload hx hb dX12_copies_13 (lv_at hl 0 rfl) ?_
        refine lv_iadd hx hb dX12_copies_15 ?_
        refine lv_topi (fun v_69419 v_69419_e => ?_)
        have h_v_69419 : 0 ≤ (v_69419 : Int32).toInt ∧ (v_69419 : Int32).toInt ≤ 192 := by rw [v_69419_e]; exact tr_add h_p3 h_69418 (by decide) (by decide) (by decide) (by decide)
        have q_v_69419 : v_69419.toInt = p3.toInt + x_69413.toInt := by rw [v_69419_e]; exact tr_addX h_p3 h_69418 (by decide) (by decide)
        refine lv_aload_n hx hb dX12_copies_16 rfl (lv_at hl 1 rfl) ?_
        refine lv_iload_n hx hb dX12_copies_17 rfl (lv_at hl 2 rfl) ?_
        refine lv_iload hx hb dX12_copies_18 (lv_at hl 0 rfl) ?_
        refine lv_iadd hx hb dX12_copies_20 ?_
        refine lv_topi (fun v_69420 v_69420_e => ?_)
        have h_v_69420 : 0 ≤ (v_69420 : Int32).toInt ∧ (v_69420 : Int32).toInt ≤ 1543 := by rw [v_69420_e]; exact tr_add h_p1 h_69418 (by decide) (by decide) (by decide) (by decide)
        have q_v_69420 : v_69420.toInt = p1.toInt + x_69413.toInt := by rw [v_69420_e]; exact tr_addX h_p1 h_69418 (by decide) (by decide)
        refine va_iald hx hb hK hP 0 0 rfl rfl (tr_in h_v_69420 (by decide) (by decide)) dX12_copies_21 ?_
        refine lv_topi (fun v_69421 v_69421_e => ?_)
        have g_v_69421 : v_69421 = ff (p1.toInt.toNat + x_69413.toInt.toNat) := v_69421_e.trans (congrArg ff (by show Int.toNat _ = _; omega))
        have gi_v_69421 := congrArg Int32.toInt g_v_69421
        refine va_iast hx hb hK hP hD hS 1 0 rfl rfl (tr_in h_v_69419 (by decide) (by decide)) dX12_copies_22 (fun H locs hP hD hS => ?_)
        obtain ⟨f_69422, f_69422_e, hP, hD⟩ : ∃ FX : Nat → Int32, FX = (upd f_69414 (v_69419 : Int32).toNatClampNeg v_69421) ∧ va_P D vwCl [(fa, .inl (g 0, 1544, .inl ff)), (ta, .inl (g 0, 193, .inl FX))] H ∧ va_D A [(fa, .inl (g 0, 1544, .inl ff)), (ta, .inl (g 0, 193, .inl FX))] := ⟨_, rfl, hP, hD⟩
        have hP : va_P D vwCl [(fa, .inl (g 0, 1544, .inl ff)), (ta, .inl (g 0, 193, .inl f_69422))] H := hP
        have hD : va_D A [(fa, .inl (g 0, 1544, .inl ff)), (ta, .inl (g 0, 193, .inl f_69422))] := hD
        obtain ⟨v_69423, v_69423_e⟩ : ∃ y : Int32, y = x_69413 + Int32.ofInt 1 := ⟨_, rfl⟩
        have h_v_69423 : 1 ≤ (v_69423 : Int32).toInt ∧ (v_69423 : Int32).toInt ≤ 193 := by rw [v_69423_e]; exact tr_add h_69418 (⟨by decide, by decide⟩ : 1 ≤ (Int32.ofInt 1 : Int32).toInt ∧ (Int32.ofInt 1 : Int32).toInt ≤ 1) (by decide) (by decide) (by decide) (by decide)
        have q_v_69423 : v_69423.toInt = x_69413.toInt + 1 := by rw [v_69423_e]; exact tr_addE h_69418 (⟨by decide, by decide⟩ : 1 ≤ (Int32.ofInt 1 : Int32).toInt ∧ (Int32.ofInt 1 : Int32).toInt ≤ 1) (by decide) (by decide)
        refine lv_iinc (v := v_69423) (lv' := [(4, .int v_69423), (0, .ref fa), (1, .int p1), (2, .ref ta), (3, .int p3)]) hx hb dX12_copies_23 hl (k := 0) rfl v_69423_e.symm (by decide) rfl (fun ls hl => ?_)
        refine lv_goto (tgt := 3) hx hb dX12_copies_26 (by decide) ?_
        exact ih_69415 v_69423 f_69422 H _ ls (tr_w h_v_69423 (by decide) (by decide)) (by rw [f_69422_e, show v_69423.toInt.toNat = _ + 1 from (by omega : _ = x_69413.toInt.toNat + 1)]; exact va_cpy_step hr69415_0 (by show Int.toNat _ = _; omega) g_v_69421) (by omega) (hP.sub [0, 1] rfl) (hD.sub [0, 1] (by decide) rfl) hS (lv_sub hl [0, 1, 2, 3, 4] rfl)
  exact lp_69415 194 0 tf s.heap _ ls (⟨by decide, by decide⟩ : 0 ≤ (0 : Int32).toInt ∧ (0 : Int32).toInt ≤ 193) (va_cpy_zero _ _ _ _) (by decide) (hP.sub [0, 1] rfl) (hD.sub [0, 1] (by decide) rfl) hS (lv_sub hl [0, 1, 2, 3, 4] rfl)
