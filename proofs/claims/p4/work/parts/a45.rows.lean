theorem qw_39 : Cond.fieldLink RX12 17 "ChanceRingsModel" "spare" "[I" ∈ wsL_law := tseg_5 (by decide +kernel) (List.mem_of_getElem? (i := 129) (by decide +kernel))
theorem dX12_copies_0 : decode cX12_copies 0 = .ok (.iconst 0, 1) := by decide +kernel
theorem dX12_copies_1 : decode cX12_copies 1 = .ok (.istore 4, 2) := by decide +kernel
theorem dX12_copies_3 : decode cX12_copies 3 = .ok (.iload 4, 2) := by decide +kernel
theorem dX12_copies_5 : decode cX12_copies 5 = .ok (.sipush 193, 3) := by decide +kernel
theorem dX12_copies_8 : decode cX12_copies 8 = .ok (.if_icmp .ge 21, 3) := by decide +kernel
theorem dX12_copies_11 : decode cX12_copies 11 = .ok (.aload_n 2, 1) := by decide +kernel
theorem dX12_copies_12 : decode cX12_copies 12 = .ok (.iload_n 3, 1) := by decide +kernel
theorem dX12_copies_13 : decode cX12_copies 13 = .ok (.iload 4, 2) := by decide +kernel
theorem dX12_copies_15 : decode cX12_copies 15 = .ok (.iadd, 1) := by decide +kernel
theorem dX12_copies_16 : decode cX12_copies 16 = .ok (.aload_n 0, 1) := by decide +kernel
theorem dX12_copies_17 : decode cX12_copies 17 = .ok (.iload_n 1, 1) := by decide +kernel
theorem dX12_copies_18 : decode cX12_copies 18 = .ok (.iload 4, 2) := by decide +kernel
theorem dX12_copies_20 : decode cX12_copies 20 = .ok (.iadd, 1) := by decide +kernel
theorem dX12_copies_21 : decode cX12_copies 21 = .ok (.iaload, 1) := by decide +kernel
theorem dX12_copies_22 : decode cX12_copies 22 = .ok (.iastore, 1) := by decide +kernel
theorem dX12_copies_23 : decode cX12_copies 23 = .ok (.iinc 4 1, 3) := by decide +kernel
theorem dX12_copies_26 : decode cX12_copies 26 = .ok (.goto (-23), 3) := by decide +kernel
theorem dX12_copies_29 : decode cX12_copies 29 = .ok (.return_, 1) := by decide +kernel
theorem dX12_manyOf_0 : decode cX12_manyOf 0 = .ok (.iconst 0, 1) := by decide +kernel
theorem dX12_manyOf_1 : decode cX12_manyOf 1 = .ok (.istore_n 3, 1) := by decide +kernel
theorem dX12_manyOf_2 : decode cX12_manyOf 2 = .ok (.iconst 0, 1) := by decide +kernel
theorem dX12_manyOf_3 : decode cX12_manyOf 3 = .ok (.istore 4, 2) := by decide +kernel
theorem dX12_manyOf_5 : decode cX12_manyOf 5 = .ok (.iload 4, 2) := by decide +kernel
theorem dX12_manyOf_7 : decode cX12_manyOf 7 = .ok (.aload_n 1, 1) := by decide +kernel
theorem dX12_manyOf_8 : decode cX12_manyOf 8 = .ok (.iconst 0, 1) := by decide +kernel
theorem dX12_manyOf_9 : decode cX12_manyOf 9 = .ok (.iaload, 1) := by decide +kernel
theorem dX12_manyOf_10 : decode cX12_manyOf 10 = .ok (.if_icmp .ge 27, 3) := by decide +kernel
theorem dX12_manyOf_13 : decode cX12_manyOf 13 = .ok (.iload_n 3, 1) := by decide +kernel
theorem dX12_manyOf_14 : decode cX12_manyOf 14 = .ok (.aload_n 1, 1) := by decide +kernel
theorem dX12_manyOf_15 : decode cX12_manyOf 15 = .ok (.iconst 1, 1) := by decide +kernel
theorem dX12_manyOf_16 : decode cX12_manyOf 16 = .ok (.iload 4, 2) := by decide +kernel
theorem dX12_manyOf_18 : decode cX12_manyOf 18 = .ok (.iadd, 1) := by decide +kernel
theorem dX12_manyOf_19 : decode cX12_manyOf 19 = .ok (.iaload, 1) := by decide +kernel
theorem dX12_manyOf_20 : decode cX12_manyOf 20 = .ok (.iload_n 2, 1) := by decide +kernel
theorem dX12_manyOf_21 : decode cX12_manyOf 21 = .ok (.if_icmp .ne 7, 3) := by decide +kernel
theorem dX12_manyOf_24 : decode cX12_manyOf 24 = .ok (.iconst 1, 1) := by decide +kernel
theorem dX12_manyOf_25 : decode cX12_manyOf 25 = .ok (.goto 4, 3) := by decide +kernel
theorem dX12_manyOf_28 : decode cX12_manyOf 28 = .ok (.iconst 0, 1) := by decide +kernel
theorem dX12_manyOf_29 : decode cX12_manyOf 29 = .ok (.iadd, 1) := by decide +kernel
theorem dX12_manyOf_30 : decode cX12_manyOf 30 = .ok (.istore_n 3, 1) := by decide +kernel
theorem dX12_manyOf_31 : decode cX12_manyOf 31 = .ok (.iinc 4 1, 3) := by decide +kernel
theorem dX12_manyOf_34 : decode cX12_manyOf 34 = .ok (.goto (-29), 3) := by decide +kernel
theorem dX12_manyOf_37 : decode cX12_manyOf 37 = .ok (.iload_n 3, 1) := by decide +kernel
theorem dX12_manyOf_38 : decode cX12_manyOf 38 = .ok (.ireturn, 1) := by decide +kernel
theorem dX12_named_0 : decode cX12_named 0 = .ok (.iconst 0, 1) := by decide +kernel
theorem dX12_named_1 : decode cX12_named 1 = .ok (.istore_n 1, 1) := by decide +kernel
theorem dX12_named_2 : decode cX12_named 2 = .ok (.iload_n 1, 1) := by decide +kernel
theorem dX12_named_3 : decode cX12_named 3 = .ok (.aload_n 0, 1) := by decide +kernel
theorem dX12_named_4 : decode cX12_named 4 = .ok (.getfield 17, 3) := by decide +kernel
theorem dX12_named_7 : decode cX12_named 7 = .ok (.iconst 0, 1) := by decide +kernel
theorem dX12_named_8 : decode cX12_named 8 = .ok (.iaload, 1) := by decide +kernel
theorem dX12_named_9 : decode cX12_named 9 = .ok (.if_icmp .ge 76, 3) := by decide +kernel
theorem dX12_named_12 : decode cX12_named 12 = .ok (.iconst 1, 1) := by decide +kernel
theorem dX12_named_13 : decode cX12_named 13 = .ok (.istore_n 2, 1) := by decide +kernel
theorem dX12_named_14 : decode cX12_named 14 = .ok (.iconst 0, 1) := by decide +kernel
theorem dX12_named_15 : decode cX12_named 15 = .ok (.istore_n 3, 1) := by decide +kernel
theorem dX12_named_16 : decode cX12_named 16 = .ok (.iload_n 3, 1) := by decide +kernel
theorem dX12_named_17 : decode cX12_named 17 = .ok (.bipush 6, 2) := by decide +kernel
theorem dX12_named_19 : decode cX12_named 19 = .ok (.if_icmp .ge 54, 3) := by decide +kernel
theorem dX12_named_22 : decode cX12_named 22 = .ok (.iload_n 2, 1) := by decide +kernel
theorem dX12_named_23 : decode cX12_named 23 = .ok (.ifCond .eq 50, 3) := by decide +kernel
theorem dX12_named_26 : decode cX12_named 26 = .ok (.aload_n 0, 1) := by decide +kernel
theorem dX12_named_27 : decode cX12_named 27 = .ok (.getfield 17, 3) := by decide +kernel
theorem dX12_named_30 : decode cX12_named 30 = .ok (.bipush 121, 2) := by decide +kernel
theorem dX12_named_32 : decode cX12_named 32 = .ok (.bipush 6, 2) := by decide +kernel
theorem dX12_named_34 : decode cX12_named 34 = .ok (.iload_n 1, 1) := by decide +kernel
theorem dX12_named_35 : decode cX12_named 35 = .ok (.imul, 1) := by decide +kernel
theorem dX12_named_36 : decode cX12_named 36 = .ok (.iadd, 1) := by decide +kernel
theorem dX12_named_37 : decode cX12_named 37 = .ok (.iload_n 3, 1) := by decide +kernel
theorem dX12_named_38 : decode cX12_named 38 = .ok (.iadd, 1) := by decide +kernel
theorem dX12_named_39 : decode cX12_named 39 = .ok (.iaload, 1) := by decide +kernel
theorem dX12_named_40 : decode cX12_named 40 = .ok (.iload_n 3, 1) := by decide +kernel
theorem dX12_named_41 : decode cX12_named 41 = .ok (.aload_n 0, 1) := by decide +kernel
theorem dX12_named_42 : decode cX12_named 42 = .ok (.getfield 129, 3) := by decide +kernel
theorem dX12_named_45 : decode cX12_named 45 = .ok (.if_icmp .ge 12, 3) := by decide +kernel
theorem dX12_named_48 : decode cX12_named 48 = .ok (.aload_n 0, 1) := by decide +kernel
theorem dX12_named_49 : decode cX12_named 49 = .ok (.getfield 37, 3) := by decide +kernel
theorem dX12_named_52 : decode cX12_named 52 = .ok (.iload_n 3, 1) := by decide +kernel
theorem dX12_named_53 : decode cX12_named 53 = .ok (.baload, 1) := by decide +kernel
theorem dX12_named_54 : decode cX12_named 54 = .ok (.goto 4, 3) := by decide +kernel
theorem dX12_named_57 : decode cX12_named 57 = .ok (.iconst 0, 1) := by decide +kernel
theorem dX12_named_58 : decode cX12_named 58 = .ok (.if_icmp .ne 7, 3) := by decide +kernel
theorem dX12_named_61 : decode cX12_named 61 = .ok (.iconst 1, 1) := by decide +kernel
theorem dX12_named_62 : decode cX12_named 62 = .ok (.goto 4, 3) := by decide +kernel
theorem dX12_named_65 : decode cX12_named 65 = .ok (.iconst 0, 1) := by decide +kernel
theorem dX12_named_66 : decode cX12_named 66 = .ok (.istore_n 2, 1) := by decide +kernel
theorem dX12_named_67 : decode cX12_named 67 = .ok (.iinc 3 1, 3) := by decide +kernel
theorem dX12_named_70 : decode cX12_named 70 = .ok (.goto (-54), 3) := by decide +kernel
theorem dX12_named_73 : decode cX12_named 73 = .ok (.iload_n 2, 1) := by decide +kernel
theorem dX12_named_74 : decode cX12_named 74 = .ok (.ifCond .eq 5, 3) := by decide +kernel
theorem dX12_named_77 : decode cX12_named 77 = .ok (.iload_n 1, 1) := by decide +kernel
theorem dX12_named_78 : decode cX12_named 78 = .ok (.ireturn, 1) := by decide +kernel
theorem dX12_named_79 : decode cX12_named 79 = .ok (.iinc 1 1, 3) := by decide +kernel
theorem dX12_named_82 : decode cX12_named 82 = .ok (.goto (-80), 3) := by decide +kernel
theorem dX12_named_85 : decode cX12_named 85 = .ok (.iconst (-1), 1) := by decide +kernel
theorem dX12_named_86 : decode cX12_named 86 = .ok (.ireturn, 1) := by decide +kernel
theorem dX12_weights_0 : decode cX12_weights 0 = .ok (.iconst 0, 1) := by decide +kernel
theorem dX12_weights_1 : decode cX12_weights 1 = .ok (.istore_n 2, 1) := by decide +kernel
theorem dX12_weights_2 : decode cX12_weights 2 = .ok (.iconst 0, 1) := by decide +kernel
theorem dX12_weights_3 : decode cX12_weights 3 = .ok (.istore_n 3, 1) := by decide +kernel
theorem dX12_weights_4 : decode cX12_weights 4 = .ok (.iload_n 3, 1) := by decide +kernel
theorem dX12_weights_5 : decode cX12_weights 5 = .ok (.aload_n 0, 1) := by decide +kernel
theorem dX12_weights_6 : decode cX12_weights 6 = .ok (.bipush 25, 2) := by decide +kernel
theorem dX12_weights_8 : decode cX12_weights 8 = .ok (.iload_n 1, 1) := by decide +kernel
theorem dX12_weights_9 : decode cX12_weights 9 = .ok (.iadd, 1) := by decide +kernel
theorem dX12_weights_10 : decode cX12_weights 10 = .ok (.iaload, 1) := by decide +kernel
theorem dX12_weights_11 : decode cX12_weights 11 = .ok (.if_icmp .ge 22, 3) := by decide +kernel
theorem dX12_weights_14 : decode cX12_weights 14 = .ok (.iload_n 2, 1) := by decide +kernel
theorem dX12_weights_15 : decode cX12_weights 15 = .ok (.aload_n 0, 1) := by decide +kernel
theorem dX12_weights_16 : decode cX12_weights 16 = .ok (.bipush 73, 2) := by decide +kernel
theorem dX12_weights_18 : decode cX12_weights 18 = .ok (.iconst 3, 1) := by decide +kernel
theorem dX12_weights_19 : decode cX12_weights 19 = .ok (.iload_n 1, 1) := by decide +kernel
theorem dX12_weights_20 : decode cX12_weights 20 = .ok (.imul, 1) := by decide +kernel
theorem dX12_weights_21 : decode cX12_weights 21 = .ok (.iadd, 1) := by decide +kernel
theorem dX12_weights_22 : decode cX12_weights 22 = .ok (.iload_n 3, 1) := by decide +kernel
theorem dX12_weights_23 : decode cX12_weights 23 = .ok (.iadd, 1) := by decide +kernel
theorem dX12_weights_24 : decode cX12_weights 24 = .ok (.iaload, 1) := by decide +kernel
theorem dX12_weights_25 : decode cX12_weights 25 = .ok (.iadd, 1) := by decide +kernel
theorem dX12_weights_26 : decode cX12_weights 26 = .ok (.istore_n 2, 1) := by decide +kernel
theorem dX12_weights_27 : decode cX12_weights 27 = .ok (.iinc 3 1, 3) := by decide +kernel
theorem dX12_weights_30 : decode cX12_weights 30 = .ok (.goto (-26), 3) := by decide +kernel
theorem dX12_weights_33 : decode cX12_weights 33 = .ok (.iload_n 2, 1) := by decide +kernel
theorem dX12_weights_34 : decode cX12_weights 34 = .ok (.ireturn, 1) := by decide +kernel
theorem tk_25 : (25 : Int32).toInt = 25 := by decide
theorem tk_73 : (73 : Int32).toInt = 73 := by decide
theorem tk_121 : (121 : Int32).toInt = 121 := by decide
theorem tk_193 : (193 : Int32).toInt = 193 := by decide
set_option maxHeartbeats 4000000 in
set_option maxRecDepth 100000 in
theorem c_X12_named (l : Launch) (D : va_G) (g : Nat → ClassId) (mm : Nat) (i_thrown : Int32) (m_s : Nat) (m_spare : Nat) (m_kept : Nat) (m_undone : Nat) (m_triedWay : Nat) (m_isKept : Nat) (i_undoMany : Int32) (m_tape : Nat) (i_length : Int32) (i_size : Int32) (i_p : Int32) (i_at : Int32) (i_token : Int32) (i_number : Int32) (i_letterMany : Int32) (i_fault : Int32) (i_faultAt : Int32) (m_letters : Nat) (i_isKnown : Int32) (m_choice : Nat) (m_row : Nat) (m_up : Nat) (m_low : Nat) (m_m : Nat) (m_bestUp : Nat) (m_bestLow : Nat) (m_replyUp : Nat) (m_replyLow : Nat) (m_worthUp : Nat) (m_worthLow : Nat) (m_bestWay : Nat) (i_seed : Int32) (m_told : Nat) (i_toldMany : Int32) (spf : Nat → Int32) (lf : Nat → Int32) (h_i_undoMany : 0 ≤ (i_undoMany : Int32).toInt ∧ (i_undoMany : Int32).toInt ≤ 8) (h_i_length : 0 ≤ (i_length : Int32).toInt ∧ (i_length : Int32).toInt ≤ 440) (h_i_size : 0 ≤ (i_size : Int32).toInt ∧ (i_size : Int32).toInt ≤ 440) (h_i_p : 0 ≤ (i_p : Int32).toInt ∧ (i_p : Int32).toInt ≤ 440) (h_i_at : 0 ≤ (i_at : Int32).toInt ∧ (i_at : Int32).toInt ≤ 440) (h_i_token : 0 ≤ (i_token : Int32).toInt ∧ (i_token : Int32).toInt ≤ 4) (h_i_number : 0 ≤ (i_number : Int32).toInt ∧ (i_number : Int32).toInt ≤ 814) (h_i_letterMany : (-440) ≤ (i_letterMany : Int32).toInt ∧ (i_letterMany : Int32).toInt ≤ 440) (h_i_faultAt : 0 ≤ (i_faultAt : Int32).toInt ∧ (i_faultAt : Int32).toInt ≤ 440) (h_i_isKnown : 0 ≤ (i_isKnown : Int32).toInt ∧ (i_isKnown : Int32).toInt ≤ 1) (h_i_toldMany : 0 ≤ (i_toldMany : Int32).toInt ∧ (i_toldMany : Int32).toInt ≤ 900) (hG : GR spf) : Met l yX12_named (.code yX12_named cX12_named 4 (some .int) :: wsL_law) ({ frames := 0, cells := 0, slots := 0, locals := 0 }) (va_Pc [.ref mm] (fun U => va_P D vwCl [(mm, .inr (12, (.int i_thrown :: .ref m_s :: .ref m_spare :: .ref m_kept :: .ref m_undone :: .ref m_triedWay :: .ref m_isKept :: .int i_undoMany :: .ref m_tape :: .int i_length :: .int i_size :: .int i_p :: .int i_at :: .int i_token :: .int i_number :: .int i_letterMany :: .int i_fault :: .int i_faultAt :: .ref m_letters :: .int i_isKnown :: .ref m_choice :: .ref m_row :: .ref m_up :: .ref m_low :: .ref m_m :: .ref m_bestUp :: .ref m_bestLow :: .ref m_replyUp :: .ref m_replyLow :: .ref m_worthUp :: .ref m_worthLow :: .ref m_bestWay :: .int i_seed :: .ref m_told :: .int i_toldMany :: []))), (m_spare, .inl (g 0, 193, .inl spf)), (m_letters, .inl (g 2, 6, .inl lf))] U.heap ∧ va_K D vwCl (TY g) U)) (vp_Si (fun r => ((-1) ≤ (r : Int32).toInt ∧ (r : Int32).toInt ≤ 11) ∧ (Hide (0 ≤ (r : Int32).toInt → (r : Int32).toInt < (spf 0).toInt)) ∧ (Hide ((0 ≤ (r : Int32).toInt ∧ (r : Int32).toInt < (spf 0).toInt ∧ Mt6 (nm6 spf (r : Int32).toInt.toNat) (pad lf (i_letterMany : Int32).toInt) ∧ ∀ p : Nat, (p : Int) < (r : Int32).toInt → ¬ Mt6 (nm6 spf p) (pad lf (i_letterMany : Int32).toInt)) ∨ ((r : Int32).toInt = -1 ∧ ∀ p : Nat, (p : Int) < (spf 0).toInt → ¬ Mt6 (nm6 spf p) (pad lf (i_letterMany : Int32).toInt)))))) 0 0 (fun _ => False) := by
  refine Met.ofW (cc := cX12_named) (maxL := 4) (ret := (some .int)) (by decide) rfl ?_
  intro p e s m args below meth c s₁ B hml hv
  obtain ⟨ha, hP, hK⟩ := hv
  have hx := B.exec
  have hb := B.bytes
  have hr := B.returns
  have hts0 := atoms_spec (ws := (.code yX12_named cX12_named 4 (some .int) :: wsL_law)) B.pre
  have hts : ∀ w ∈ wsL_law, w.before args s = true := fun w h => hts0 w (List.mem_cons_of_mem _ h)
  have hown : s.vm.findClass RX12 = some m.cls := findClass_of_methodNamed B.named
  have hlocks := B.notSynchronized
  have hP : va_P D vwCl [(mm, .inr (12, (.int i_thrown :: .ref m_s :: .ref m_spare :: .ref m_kept :: .ref m_undone :: .ref m_triedWay :: .ref m_isKept :: .int i_undoMany :: .ref m_tape :: .int i_length :: .int i_size :: .int i_p :: .int i_at :: .int i_token :: .int i_number :: .int i_letterMany :: .int i_fault :: .int i_faultAt :: .ref m_letters :: .int i_isKnown :: .ref m_choice :: .ref m_row :: .ref m_up :: .ref m_low :: .ref m_m :: .ref m_bestUp :: .ref m_bestLow :: .ref m_replyUp :: .ref m_replyLow :: .ref m_worthUp :: .ref m_worthLow :: .ref m_bestWay :: .int i_seed :: .ref m_told :: .int i_toldMany :: []))), (m_spare, .inl (g 0, 193, .inl spf)), (m_letters, .inl (g 2, 6, .inl lf))] s.heap := hP
  refine W.eq (g2 := entryFrame m ([.ref mm] : List Value).toArray 4) (by rw [ha]) ?_
  have hl := lv_entry ([.ref mm]) (n := 4) (Nat.le_of_ble_eq_true rfl)
  rw [lg_entry_eq]
  generalize (lg_sl ([.ref mm]) ++ List.replicate (4 - (lg_sl ([.ref mm])).length) Slot.unset).toArray = ls at hl ⊢
  have hl : lv_has ls 4 [(0, .ref mm)] := hl
  refine lv_iconst (v := 0) hx hb dX12_named_0 (by decide) ?_
  refine lv_istore_n (lv' := [(1, .int 0), (0, .ref mm)]) hx hb dX12_named_1 rfl hl (by decide) rfl (fun ls hl => ?_)
  have lp_2034 : ∀ (n_2034 : Nat) (x_2033 : Int32) (ls : Array Slot), (0 ≤ (x_2033 : Int32).toInt ∧ (x_2033 : Int32).toInt ≤ 12) → (∀ k : Nat, k < x_2033.toInt.toNat → ¬ Mt6 (nm6 spf k) (pad lf (i_letterMany : Int32).toInt)) → (12 - x_2033.toInt < (n_2034 : Int)) → lv_has ls 4 [(1, .int x_2033), (0, .ref mm)] → W p l e (headSpec (.code yX12_named cX12_named 4 (some .int) :: wsL_law) ({ frames := 0, cells := 0, slots := 0, locals := 0 })).room s m args below meth c s.heap [] 0 0 (MQ below (vp_Si (fun r => ((-1) ≤ (r : Int32).toInt ∧ (r : Int32).toInt ≤ 11) ∧ (Hide (0 ≤ (r : Int32).toInt → (r : Int32).toInt < (spf 0).toInt)) ∧ (Hide ((0 ≤ (r : Int32).toInt ∧ (r : Int32).toInt < (spf 0).toInt ∧ Mt6 (nm6 spf (r : Int32).toInt.toNat) (pad lf (i_letterMany : Int32).toInt) ∧ ∀ p : Nat, (p : Int) < (r : Int32).toInt → ¬ Mt6 (nm6 spf p) (pad lf (i_letterMany : Int32).toInt)) ∨ ((r : Int32).toInt = -1 ∧ ∀ p : Nat, (p : Int) < (spf 0).toInt → ¬ Mt6 (nm6 spf p) (pad lf (i_letterMany : Int32).toInt)))))) args s 0 0 (fun _ => False)) (F0 m 2 ls []) := by
    intro n_2034
    induction n_2034 with
    | zero =>
      intro x_2033 ls h_x_2033 hr2034_0 hm_2034 hl
      exfalso; omega
    | succ n_2034 ih_2034 =>
      intro x_2033 ls h_x_2033 hr2034_0 hm_2034 hl
      refine lv_iload_n hx hb dX12_named_2 rfl (lv_at hl 0 rfl) ?_
      refine lv_aload_n hx hb dX12_named_3 rfl (lv_at hl 1 rfl) ?_
      refine va_get (D := D) (ci := 12) (v := .ref m_spare) (C := RX12) (T := TX12) (N := 35) hx hb hts inlX12 hown hK hP 0 rfl rfl 2 (by decide) (hts (Cond.fieldLink RX12 17 "ChanceRingsModel" "spare" "[I") qw_39) (fun _ h9 => h9) rfl dX12_named_4 ?_
      refine lv_iconst (v := 0) hx hb dX12_named_7 (by decide) ?_
      refine va_iald hx hb hK hP 1 0 rfl rfl (tz_in (by decide +kernel)) dX12_named_8 ?_
      refine lv_topi (fun v_2035 v_2035_e => ?_)
      have h_v_2035 : 0 ≤ (v_2035 : Int32).toInt ∧ (v_2035 : Int32).toInt ≤ 12 := by rw [v_2035_e]; exact gr_nodes hG (⟨by decide, by decide⟩ : 0 ≤ (0 : Int32).toInt ∧ (0 : Int32).toInt ≤ 0)
      have g_v_2035 : v_2035 = spf (0) := v_2035_e.trans (congrArg spf rfl)
      have gi_v_2035 := congrArg Int32.toInt g_v_2035
      refine lv_icmp_ge (tgt := 85) hx hb dX12_named_9 (by decide) (fun c_2036 => ?_) (fun c_2036 => ?_)
      · skip
        have c_2036_i := Int32.le_iff_toInt_le.mp c_2036
        refine lv_iconst (v := (-1)) hx hb dX12_named_85 (by decide) ?_
        exact W.iret (v := (-1)) hx hb hr (fun t ht hW => ⟨(-1), rfl, ⟨(⟨by decide, by decide⟩ : (-1) ≤ ((-1) : Int32).toInt ∧ ((-1) : Int32).toInt ≤ 11), (fun h9 => by have z1 := tk_m1; (first | (clear h_i_undoMany h_i_length h_i_size h_i_p h_i_at h_i_token h_i_number h_i_letterMany h_i_faultAt h_i_isKnown h_i_toldMany; omega) | omega)), (Or.inr ⟨tk_m1, fun k h9 => hr2034_0 k (by have q7 := gi_v_2035; (first | (clear h_i_undoMany h_i_length h_i_size h_i_p h_i_at h_i_token h_i_number h_i_letterMany h_i_faultAt h_i_isKnown h_i_toldMany; omega) | omega))⟩)⟩, ht⟩) (fun _ h => nomatch h) dX12_named_86
      · skip
        have c_2036_i := Int32.lt_iff_toInt_lt.mp (Int32.not_le.mp c_2036)
        have h_2037 : 0 ≤ (x_2033 : Int32).toInt ∧ (x_2033 : Int32).toInt ≤ 11 := nr_lt_l h_x_2033 h_v_2035 c_2036_i (by decide) (by decide)
        have h_2038 : 1 ≤ (v_2035 : Int32).toInt ∧ (v_2035 : Int32).toInt ≤ 12 := nr_lt_r h_x_2033 h_v_2035 c_2036_i (by decide) (by decide)
        refine lv_iconst (v := 1) hx hb dX12_named_12 (by decide) ?_
        refine lv_istore_n (lv' := [(2, .int 1), (1, .int x_2033), (0, .ref mm)]) hx hb dX12_named_13 rfl hl (by decide) rfl (fun ls hl => ?_)
        refine lv_iconst (v := 0) hx hb dX12_named_14 (by decide) ?_
        refine lv_istore_n (lv' := [(3, .int 0), (2, .int 1), (1, .int x_2033), (0, .ref mm)]) hx hb dX12_named_15 rfl hl (by decide) rfl (fun ls hl => ?_)
        have lp_2070 : ∀ (n_2070 : Nat) (x_2068 : Int32) (x_2069 : Int32) (ls : Array Slot), (0 ≤ (x_2068 : Int32).toInt ∧ (x_2068 : Int32).toInt ≤ 1) → (0 ≤ (x_2069 : Int32).toInt ∧ (x_2069 : Int32).toInt ≤ 6) → ((x_2068.toInt = 1 → ∀ q : Nat, q < x_2069.toInt.toNat → nm6 spf x_2033.toInt.toNat q = pad lf (i_letterMany : Int32).toInt q) ∧ (x_2068.toInt = 0 → ¬ Mt6 (nm6 spf x_2033.toInt.toNat) (pad lf (i_letterMany : Int32).toInt))) → (6 - x_2069.toInt < (n_2070 : Int)) → lv_has ls 4 [(3, .int x_2069), (2, .int x_2068), (1, .int x_2033), (0, .ref mm)] → W p l e (headSpec (.code yX12_named cX12_named 4 (some .int) :: wsL_law) ({ frames := 0, cells := 0, slots := 0, locals := 0 })).room s m args below meth c s.heap [] 0 0 (MQ below (vp_Si (fun r => ((-1) ≤ (r : Int32).toInt ∧ (r : Int32).toInt ≤ 11) ∧ (Hide (0 ≤ (r : Int32).toInt → (r : Int32).toInt < (spf 0).toInt)) ∧ (Hide ((0 ≤ (r : Int32).toInt ∧ (r : Int32).toInt < (spf 0).toInt ∧ Mt6 (nm6 spf (r : Int32).toInt.toNat) (pad lf (i_letterMany : Int32).toInt) ∧ ∀ p : Nat, (p : Int) < (r : Int32).toInt → ¬ Mt6 (nm6 spf p) (pad lf (i_letterMany : Int32).toInt)) ∨ ((r : Int32).toInt = -1 ∧ ∀ p : Nat, (p : Int) < (spf 0).toInt → ¬ Mt6 (nm6 spf p) (pad lf (i_letterMany : Int32).toInt)))))) args s 0 0 (fun _ => False)) (F0 m 16 ls []) := by
          intro n_2070
          induction n_2070 with
          | zero =>
            intro x_2068 x_2069 ls h_x_2068 h_x_2069 hr2070_0 hm_2070 hl
            exfalso; omega
          | succ n_2070 ih_2070 =>
            intro x_2068 x_2069 ls h_x_2068 h_x_2069 hr2070_0 hm_2070 hl
            refine lv_iload_n hx hb dX12_named_16 rfl (lv_at hl 0 rfl) ?_
            refine lv_bipush (v := 6) hx hb dX12_named_17 (by decide) ?_
            refine lv_icmp_ge (tgt := 73) hx hb dX12_named_19 (by decide) (fun c_2071 => ?_) (fun c_2071 => ?_)
            · skip
              have kk_6 := tk_6
              have c_2071_i := Int32.le_iff_toInt_le.mp c_2071
              have h_2072 : 6 ≤ (x_2069 : Int32).toInt ∧ (x_2069 : Int32).toInt ≤ 6 := nr_le_r (⟨by decide, by decide⟩ : 6 ≤ (6 : Int32).toInt ∧ (6 : Int32).toInt ≤ 6) h_x_2069 c_2071_i (by decide) (by decide)
              refine lv_iload_n hx hb dX12_named_73 rfl (lv_at hl 1 rfl) ?_
              refine lv_if_eq (tgt := 79) hx hb dX12_named_74 (by decide) (fun c_2074 => ?_) (fun c_2074 => ?_)
              · skip
                have kk_0 := tk_0
                have c_2074_i : (x_2068 : Int32).toInt = (0 : Int32).toInt := congrArg Int32.toInt c_2074
                have h_2075 : 0 ≤ (x_2068 : Int32).toInt ∧ (x_2068 : Int32).toInt ≤ 0 := nr_eq_l h_x_2068 (⟨by decide, by decide⟩ : 0 ≤ (0 : Int32).toInt ∧ (0 : Int32).toInt ≤ 0) c_2074_i (by decide) (by decide)
                obtain ⟨v_2077, v_2077_e⟩ : ∃ y : Int32, y = x_2033 + Int32.ofInt 1 := ⟨_, rfl⟩
                have h_v_2077 : 1 ≤ (v_2077 : Int32).toInt ∧ (v_2077 : Int32).toInt ≤ 12 := by rw [v_2077_e]; exact tr_add h_2037 (⟨by decide, by decide⟩ : 1 ≤ (Int32.ofInt 1 : Int32).toInt ∧ (Int32.ofInt 1 : Int32).toInt ≤ 1) (by decide) (by decide) (by decide) (by decide)
                have q_v_2077 : v_2077.toInt = x_2033.toInt + 1 := by rw [v_2077_e]; exact tr_addE h_2037 (⟨by decide, by decide⟩ : 1 ≤ (Int32.ofInt 1 : Int32).toInt ∧ (Int32.ofInt 1 : Int32).toInt ≤ 1) (by decide) (by decide)
                refine lv_iinc (v := v_2077) (lv' := [(1, .int v_2077), (3, .int x_2069), (2, .int x_2068), (0, .ref mm)]) hx hb dX12_named_79 hl (k := 2) rfl v_2077_e.symm (by decide) rfl (fun ls hl => ?_)
                refine lv_goto (tgt := 2) hx hb dX12_named_82 (by decide) ?_
                exact ih_2034 v_2077 ls (tr_w h_v_2077 (by decide) (by decide)) (all_nx hr2034_0 (hr2070_0.2 (by have z_0 := tk_0; (first | (clear h_i_undoMany h_i_length h_i_size h_i_p h_i_at h_i_token h_i_number h_i_letterMany h_i_faultAt h_i_isKnown h_i_toldMany h_x_2068 h_x_2069 c_2071_i h_2072 c_2074_i h_2075; omega) | omega))) (by (first | (clear h_i_undoMany h_i_length h_i_size h_i_p h_i_at h_i_token h_i_number h_i_letterMany h_i_faultAt h_i_isKnown h_i_toldMany h_x_2068 h_x_2069 c_2071_i h_2072 c_2074_i h_2075; omega) | omega))) (by (first | (clear h_i_undoMany h_i_length h_i_size h_i_p h_i_at h_i_token h_i_number h_i_letterMany h_i_faultAt h_i_isKnown h_i_toldMany h_x_2068 h_x_2069 c_2071_i h_2072 c_2074_i h_2075; omega) | omega)) (lv_sub hl [0, 3] rfl)
              · skip
                have kk_0 := tk_0
                have c_2074_i : ¬ (x_2068 : Int32).toInt = (0 : Int32).toInt := (fun q => c_2074 (Int32.toInt_inj.mp q))
                have h_2076 : 1 ≤ (x_2068 : Int32).toInt ∧ (x_2068 : Int32).toInt ≤ 1 := nr_ne_l h_x_2068 (⟨by decide, by decide⟩ : 0 ≤ (0 : Int32).toInt ∧ (0 : Int32).toInt ≤ 0) c_2074_i (by decide) (by decide)
                refine lv_iload_n hx hb dX12_named_77 rfl (lv_at hl 2 rfl) ?_
                exact W.iret (v := x_2033) hx hb hr (fun t ht hW => ⟨x_2033, rfl, ⟨(tr_w h_2037 (by decide) (by decide)), (fun _ => by have q8 := congrArg Int32.toInt g_v_2035; (first | (clear h_i_undoMany h_i_length h_i_size h_i_p h_i_at h_i_token h_i_number h_i_letterMany h_i_faultAt h_i_isKnown h_i_toldMany h_x_2068 h_x_2069 c_2071_i h_2072 c_2074_i h_2076; omega) | omega)), (Or.inl ⟨by (first | (clear h_i_undoMany h_i_length h_i_size h_i_p h_i_at h_i_token h_i_number h_i_letterMany h_i_faultAt h_i_isKnown h_i_toldMany h_x_2068 h_x_2069 c_2071_i h_2072 c_2074_i h_2076; omega) | omega), by have q7 := gi_v_2035; (first | (clear h_i_undoMany h_i_length h_i_size h_i_p h_i_at h_i_token h_i_number h_i_letterMany h_i_faultAt h_i_isKnown h_i_toldMany h_x_2068 h_x_2069 c_2071_i h_2072 c_2074_i h_2076; omega) | omega), fun q h9 => hr2070_0.1 (by have z_0 := tk_0; (first | (clear h_i_undoMany h_i_length h_i_size h_i_p h_i_at h_i_token h_i_number h_i_letterMany h_i_faultAt h_i_isKnown h_i_toldMany h_x_2068 h_x_2069 c_2071_i h_2072 c_2074_i h_2076; omega) | omega)) q (by have z_6 := tk_6; (first | (clear h_i_undoMany h_i_length h_i_size h_i_p h_i_at h_i_token h_i_number h_i_letterMany h_i_faultAt h_i_isKnown h_i_toldMany h_x_2068 h_x_2069 c_2071_i h_2072 c_2074_i h_2076; omega) | omega)), fun k h9 => hr2034_0 k (by (first | (clear h_i_undoMany h_i_length h_i_size h_i_p h_i_at h_i_token h_i_number h_i_letterMany h_i_faultAt h_i_isKnown h_i_toldMany h_x_2068 h_x_2069 c_2071_i h_2072 c_2074_i h_2076; omega) | omega))⟩)⟩, ht⟩) (fun _ h => nomatch h) dX12_named_78
            · skip
              have kk_6 := tk_6
              have c_2071_i := Int32.lt_iff_toInt_lt.mp (Int32.not_le.mp c_2071)
              have h_2073 : 0 ≤ (x_2069 : Int32).toInt ∧ (x_2069 : Int32).toInt ≤ 5 := nr_lt_l h_x_2069 (⟨by decide, by decide⟩ : 6 ≤ (6 : Int32).toInt ∧ (6 : Int32).toInt ≤ 6) c_2071_i (by decide) (by decide)
              refine lv_iload_n hx hb dX12_named_22 rfl (lv_at hl 1 rfl) ?_
              refine lv_if_eq (tgt := 73) hx hb dX12_named_23 (by decide) (fun c_2078 => ?_) (fun c_2078 => ?_)
              · skip
                have kk_0 := tk_0
                have c_2078_i : (x_2068 : Int32).toInt = (0 : Int32).toInt := congrArg Int32.toInt c_2078
                have h_2079 : 0 ≤ (x_2068 : Int32).toInt ∧ (x_2068 : Int32).toInt ≤ 0 := nr_eq_l h_x_2068 (⟨by decide, by decide⟩ : 0 ≤ (0 : Int32).toInt ∧ (0 : Int32).toInt ≤ 0) c_2078_i (by decide) (by decide)
                refine lv_iload_n hx hb dX12_named_73 rfl (lv_at hl 1 rfl) ?_
                refine lv_if_eq (tgt := 79) hx hb dX12_named_74 (by decide) (fun c_2081 => ?_) (fun h9 => (nr_x_ne h_2079 (⟨by decide, by decide⟩ : 0 ≤ (0 : Int32).toInt ∧ (0 : Int32).toInt ≤ 0) (fun q => h9 (Int32.toInt_inj.mp q)) (by decide)).elim)
                have c_2081_i : (x_2068 : Int32).toInt = (0 : Int32).toInt := congrArg Int32.toInt c_2081
                obtain ⟨v_2082, v_2082_e⟩ : ∃ y : Int32, y = x_2033 + Int32.ofInt 1 := ⟨_, rfl⟩
                have h_v_2082 : 1 ≤ (v_2082 : Int32).toInt ∧ (v_2082 : Int32).toInt ≤ 12 := by rw [v_2082_e]; exact tr_add h_2037 (⟨by decide, by decide⟩ : 1 ≤ (Int32.ofInt 1 : Int32).toInt ∧ (Int32.ofInt 1 : Int32).toInt ≤ 1) (by decide) (by decide) (by decide) (by decide)
                have q_v_2082 : v_2082.toInt = x_2033.toInt + 1 := by rw [v_2082_e]; exact tr_addE h_2037 (⟨by decide, by decide⟩ : 1 ≤ (Int32.ofInt 1 : Int32).toInt ∧ (Int32.ofInt 1 : Int32).toInt ≤ 1) (by decide) (by decide)
                refine lv_iinc (v := v_2082) (lv' := [(1, .int v_2082), (3, .int x_2069), (2, .int x_2068), (0, .ref mm)]) hx hb dX12_named_79 hl (k := 2) rfl v_2082_e.symm (by decide) rfl (fun ls hl => ?_)
                refine lv_goto (tgt := 2) hx hb dX12_named_82 (by decide) ?_
                exact ih_2034 v_2082 ls (tr_w h_v_2082 (by decide) (by decide)) (all_nx hr2034_0 (hr2070_0.2 (by have z_0 := tk_0; (first | (clear h_i_undoMany h_i_length h_i_size h_i_p h_i_at h_i_token h_i_number h_i_letterMany h_i_faultAt h_i_isKnown h_i_toldMany h_x_2068 h_x_2069 c_2071_i h_2073 c_2078_i h_2079 c_2081_i; omega) | omega))) (by (first | (clear h_i_undoMany h_i_length h_i_size h_i_p h_i_at h_i_token h_i_number h_i_letterMany h_i_faultAt h_i_isKnown h_i_toldMany h_x_2068 h_x_2069 c_2071_i h_2073 c_2078_i h_2079 c_2081_i; omega) | omega))) (by (first | (clear h_i_undoMany h_i_length h_i_size h_i_p h_i_at h_i_token h_i_number h_i_letterMany h_i_faultAt h_i_isKnown h_i_toldMany h_x_2068 h_x_2069 c_2071_i h_2073 c_2078_i h_2079 c_2081_i; omega) | omega)) (lv_sub hl [0, 3] rfl)
              · skip
                have kk_0 := tk_0
                have c_2078_i : ¬ (x_2068 : Int32).toInt = (0 : Int32).toInt := (fun q => c_2078 (Int32.toInt_inj.mp q))
                have h_2080 : 1 ≤ (x_2068 : Int32).toInt ∧ (x_2068 : Int32).toInt ≤ 1 := nr_ne_l h_x_2068 (⟨by decide, by decide⟩ : 0 ≤ (0 : Int32).toInt ∧ (0 : Int32).toInt ≤ 0) c_2078_i (by decide) (by decide)
                refine lv_aload_n hx hb dX12_named_26 rfl (lv_at hl 3 rfl) ?_
                refine va_get (D := D) (ci := 12) (v := .ref m_spare) (C := RX12) (T := TX12) (N := 35) hx hb hts inlX12 hown hK hP 0 rfl rfl 2 (by decide) (hts (Cond.fieldLink RX12 17 "ChanceRingsModel" "spare" "[I") qw_39) (fun _ h9 => h9) rfl dX12_named_27 ?_
                refine lv_bipush (v := 121) hx hb dX12_named_30 (by decide) ?_
                refine lv_bipush (v := 6) hx hb dX12_named_32 (by decide) ?_
                refine lv_iload_n hx hb dX12_named_34 rfl (lv_at hl 2 rfl) ?_
                refine lv_imul hx hb dX12_named_35 ?_
                refine lv_topi (fun v_2083 v_2083_e => ?_)
                have h_v_2083 : 0 ≤ (v_2083 : Int32).toInt ∧ (v_2083 : Int32).toInt ≤ 66 := by rw [v_2083_e]; exact tr_mul (⟨by decide, by decide⟩ : 6 ≤ (6 : Int32).toInt ∧ (6 : Int32).toInt ≤ 6) h_2037 (by decide) (by decide) (by decide) (by decide)
                have q_v_2083 : v_2083.toInt = 6 * x_2033.toInt := by rw [v_2083_e]; exact (tr_mulX (⟨by decide, by decide⟩ : 6 ≤ (6 : Int32).toInt ∧ (6 : Int32).toInt ≤ 6) h_2037 (by decide) (by decide)).trans (by rw [tk_6])
                refine lv_iadd hx hb dX12_named_36 ?_
                refine lv_topi (fun v_2084 v_2084_e => ?_)
                have h_v_2084 : 121 ≤ (v_2084 : Int32).toInt ∧ (v_2084 : Int32).toInt ≤ 187 := by rw [v_2084_e]; exact tr_add (⟨by decide, by decide⟩ : 121 ≤ (121 : Int32).toInt ∧ (121 : Int32).toInt ≤ 121) h_v_2083 (by decide) (by decide) (by decide) (by decide)
                have q_v_2084 : v_2084.toInt = 121 + v_2083.toInt := by rw [v_2084_e]; exact (tr_addX (⟨by decide, by decide⟩ : 121 ≤ (121 : Int32).toInt ∧ (121 : Int32).toInt ≤ 121) h_v_2083 (by decide) (by decide)).trans (by rw [tk_121])
                refine lv_iload_n hx hb dX12_named_37 rfl (lv_at hl 0 rfl) ?_
                refine lv_iadd hx hb dX12_named_38 ?_
                refine lv_topi (fun v_2085 v_2085_e => ?_)
                have h_v_2085 : 121 ≤ (v_2085 : Int32).toInt ∧ (v_2085 : Int32).toInt ≤ 192 := by rw [v_2085_e]; exact tr_add h_v_2084 h_2073 (by decide) (by decide) (by decide) (by decide)
                have q_v_2085 : v_2085.toInt = v_2084.toInt + x_2069.toInt := by rw [v_2085_e]; exact tr_addX h_v_2084 h_2073 (by decide) (by decide)
                refine va_iald hx hb hK hP 1 0 rfl rfl (tr_in h_v_2085 (by decide) (by decide)) dX12_named_39 ?_
                refine lv_topi (fun v_2086 v_2086_e => ?_)
                have g_v_2086 : v_2086 = spf (121 + 6 * x_2033.toInt.toNat + x_2069.toInt.toNat) := v_2086_e.trans (congrArg spf (by show Int.toNat _ = _; (first | (clear h_i_undoMany h_i_length h_i_size h_i_p h_i_at h_i_token h_i_number h_i_letterMany h_i_faultAt h_i_isKnown h_i_toldMany h_x_2068 c_2078_i h_2080; omega) | omega)))
                have gi_v_2086 := congrArg Int32.toInt g_v_2086
                have ka_9 : nm6 spf x_2033.toInt.toNat x_2069.toInt.toNat = v_2086.toInt := (gi_v_2086.trans (congrArg (fun z9 => (spf z9).toInt) (by (first | (clear h_i_undoMany h_i_length h_i_size h_i_p h_i_at h_i_token h_i_number h_i_letterMany h_i_faultAt h_i_isKnown h_i_toldMany h_x_2068 c_2078_i h_2080; omega) | omega)))).symm
                refine lv_iload_n hx hb dX12_named_40 rfl (lv_at hl 0 rfl) ?_
                refine lv_aload_n hx hb dX12_named_41 rfl (lv_at hl 3 rfl) ?_
                refine va_get (D := D) (ci := 12) (v := .int i_letterMany) (C := RX12) (T := TX12) (N := 35) hx hb hts inlX12 hown hK hP 0 rfl rfl 15 (by decide) (hts (Cond.fieldLink RX12 129 "ChanceRingsModel" "letterMany" "I") qw_32) (fun _ h9 => h9) rfl dX12_named_42 ?_
                refine lv_icmp_ge (tgt := 57) hx hb dX12_named_45 (by decide) (fun c_2087 => ?_) (fun c_2087 => ?_)
                · skip
                  have c_2087_i := Int32.le_iff_toInt_le.mp c_2087
                  have h_2088 : (-440) ≤ (i_letterMany : Int32).toInt ∧ (i_letterMany : Int32).toInt ≤ 5 := nr_le_l h_i_letterMany h_2073 c_2087_i (by decide) (by decide)
                  refine lv_iconst (v := 0) hx hb dX12_named_57 (by decide) ?_
                  have kb_9 : pad lf (i_letterMany : Int32).toInt x_2069.toInt.toNat = 0 := if_neg (by (first | (clear h_i_undoMany h_i_length h_i_size h_i_p h_i_at h_i_token h_i_number h_i_faultAt h_i_isKnown h_i_toldMany h_x_2068 c_2078_i h_2080; omega) | omega))
                  refine lv_icmp_ne (tgt := 65) hx hb dX12_named_58 (by decide) (fun c_2090 => ?_) (fun c_2090 => ?_)
                  · skip
                    have c_2090_i : ¬ (v_2086 : Int32).toInt = (0 : Int32).toInt := (fun q => c_2090 (Int32.toInt_inj.mp q))
                    refine lv_iconst (v := 0) hx hb dX12_named_65 (by decide) ?_
                    refine lv_istore_n (lv' := [(2, .int 0), (3, .int x_2069), (1, .int x_2033), (0, .ref mm)]) hx hb dX12_named_66 rfl hl (by decide) rfl (fun ls hl => ?_)
                    obtain ⟨v_2092, v_2092_e⟩ : ∃ y : Int32, y = x_2069 + Int32.ofInt 1 := ⟨_, rfl⟩
                    have h_v_2092 : 1 ≤ (v_2092 : Int32).toInt ∧ (v_2092 : Int32).toInt ≤ 6 := by rw [v_2092_e]; exact tr_add h_2073 (⟨by decide, by decide⟩ : 1 ≤ (Int32.ofInt 1 : Int32).toInt ∧ (Int32.ofInt 1 : Int32).toInt ≤ 1) (by decide) (by decide) (by decide) (by decide)
                    have q_v_2092 : v_2092.toInt = x_2069.toInt + 1 := by rw [v_2092_e]; exact tr_addE h_2073 (⟨by decide, by decide⟩ : 1 ≤ (Int32.ofInt 1 : Int32).toInt ∧ (Int32.ofInt 1 : Int32).toInt ≤ 1) (by decide) (by decide)
                    refine lv_iinc (v := v_2092) (lv' := [(3, .int v_2092), (2, .int 0), (1, .int x_2033), (0, .ref mm)]) hx hb dX12_named_67 hl (k := 1) rfl v_2092_e.symm (by decide) rfl (fun ls hl => ?_)
                    refine lv_goto (tgt := 16) hx hb dX12_named_70 (by decide) ?_
                    exact ih_2070 0 v_2092 ls (⟨by decide, by decide⟩ : 0 ≤ (0 : Int32).toInt ∧ (0 : Int32).toInt ≤ 1) (tr_w h_v_2092 (by decide) (by decide)) ⟨fun h9 => absurd h9 (by decide), fun _ m9 => by have q0 := m9 x_2069.toInt.toNat (by (first | (clear h_i_undoMany h_i_length h_i_size h_i_p h_i_at h_i_token h_i_number h_i_faultAt h_i_isKnown h_i_toldMany h_x_2068 c_2078_i h_2080; omega) | omega)); have q1 := ka_9; have q2 := kb_9; have z_0 := tk_0; (first | (clear h_i_undoMany h_i_length h_i_size h_i_p h_i_at h_i_token h_i_number h_i_faultAt h_i_isKnown h_i_toldMany h_x_2068 c_2078_i h_2080; omega) | omega)⟩ (by (first | (clear h_i_undoMany h_i_length h_i_size h_i_p h_i_at h_i_token h_i_number h_i_faultAt h_i_isKnown h_i_toldMany h_x_2068 c_2078_i h_2080; omega) | omega)) (lv_sub hl [0, 1, 2, 3] rfl)
                  · skip
                    have c_2090_i : (v_2086 : Int32).toInt = (0 : Int32).toInt := congrArg Int32.toInt c_2090
                    have h_2091 : 0 ≤ (v_2086 : Int32).toInt ∧ (v_2086 : Int32).toInt ≤ 0 := by rw [c_2090]; exact ⟨by decide, by decide⟩
                    refine lv_iconst (v := 1) hx hb dX12_named_61 (by decide) ?_
                    refine lv_goto (tgt := 66) hx hb dX12_named_62 (by decide) ?_
                    refine lv_istore_n (lv' := [(2, .int 1), (3, .int x_2069), (1, .int x_2033), (0, .ref mm)]) hx hb dX12_named_66 rfl hl (by decide) rfl (fun ls hl => ?_)
                    obtain ⟨v_2093, v_2093_e⟩ : ∃ y : Int32, y = x_2069 + Int32.ofInt 1 := ⟨_, rfl⟩
                    have h_v_2093 : 1 ≤ (v_2093 : Int32).toInt ∧ (v_2093 : Int32).toInt ≤ 6 := by rw [v_2093_e]; exact tr_add h_2073 (⟨by decide, by decide⟩ : 1 ≤ (Int32.ofInt 1 : Int32).toInt ∧ (Int32.ofInt 1 : Int32).toInt ≤ 1) (by decide) (by decide) (by decide) (by decide)
                    have q_v_2093 : v_2093.toInt = x_2069.toInt + 1 := by rw [v_2093_e]; exact tr_addE h_2073 (⟨by decide, by decide⟩ : 1 ≤ (Int32.ofInt 1 : Int32).toInt ∧ (Int32.ofInt 1 : Int32).toInt ≤ 1) (by decide) (by decide)
                    refine lv_iinc (v := v_2093) (lv' := [(3, .int v_2093), (2, .int 1), (1, .int x_2033), (0, .ref mm)]) hx hb dX12_named_67 hl (k := 1) rfl v_2093_e.symm (by decide) rfl (fun ls hl => ?_)
                    refine lv_goto (tgt := 16) hx hb dX12_named_70 (by decide) ?_
                    exact ih_2070 1 v_2093 ls (⟨by decide, by decide⟩ : 0 ≤ (1 : Int32).toInt ∧ (1 : Int32).toInt ≤ 1) (tr_w h_v_2093 (by decide) (by decide)) ⟨fun _ => all_nx (hr2070_0.1 (by (first | (clear h_i_undoMany h_i_length h_i_size h_i_p h_i_at h_i_token h_i_number h_i_faultAt h_i_isKnown h_i_toldMany h_x_2068 c_2078_i h_2080; omega) | omega))) (by have q1 := ka_9; have q2 := kb_9; have z_0 := tk_0; (first | (clear h_i_undoMany h_i_length h_i_size h_i_p h_i_at h_i_token h_i_number h_i_faultAt h_i_isKnown h_i_toldMany h_x_2068 c_2078_i h_2080; omega) | omega)) (by (first | (clear h_i_undoMany h_i_length h_i_size h_i_p h_i_at h_i_token h_i_number h_i_faultAt h_i_isKnown h_i_toldMany h_x_2068 c_2078_i h_2080; omega) | omega)), fun h9 => absurd h9 (by decide)⟩ (by (first | (clear h_i_undoMany h_i_length h_i_size h_i_p h_i_at h_i_token h_i_number h_i_faultAt h_i_isKnown h_i_toldMany h_x_2068 c_2078_i h_2080; omega) | omega)) (lv_sub hl [0, 1, 2, 3] rfl)
                · skip
                  have c_2087_i := Int32.lt_iff_toInt_lt.mp (Int32.not_le.mp c_2087)
                  have h_2089 : 1 ≤ (i_letterMany : Int32).toInt ∧ (i_letterMany : Int32).toInt ≤ 440 := nr_lt_r h_2073 h_i_letterMany c_2087_i (by decide) (by decide)
                  refine lv_aload_n hx hb dX12_named_48 rfl (lv_at hl 3 rfl) ?_
                  refine va_get (D := D) (ci := 12) (v := .ref m_letters) (C := RX12) (T := TX12) (N := 35) hx hb hts inlX12 hown hK hP 0 rfl rfl 18 (by decide) (hts (Cond.fieldLink RX12 37 "ChanceRingsModel" "letters" "[B") qw_28) (fun _ h9 => h9) rfl dX12_named_49 ?_
                  refine lv_iload_n hx hb dX12_named_52 rfl (lv_at hl 0 rfl) ?_
                  refine va_bald hx hb hK hP 2 2 rfl rfl (tr_in h_2073 (by decide) (by decide)) dX12_named_53 ?_
                  refine lv_topi (fun v_2094 v_2094_e => ?_)
                  have g_v_2094 : v_2094 = lf (x_2069.toInt.toNat) := v_2094_e.trans (congrArg lf rfl)
                  have gi_v_2094 := congrArg Int32.toInt g_v_2094
                  refine lv_goto (tgt := 58) hx hb dX12_named_54 (by decide) ?_
                  have kb_9 : pad lf (i_letterMany : Int32).toInt x_2069.toInt.toNat = v_2094.toInt := (if_pos (by (first | (clear h_i_undoMany h_i_length h_i_size h_i_p h_i_at h_i_token h_i_number h_i_faultAt h_i_isKnown h_i_toldMany h_x_2068 c_2078_i h_2080; omega) | omega))).trans gi_v_2094.symm
                  refine lv_icmp_ne (tgt := 65) hx hb dX12_named_58 (by decide) (fun c_2095 => ?_) (fun c_2095 => ?_)
                  · skip
                    have c_2095_i : ¬ (v_2086 : Int32).toInt = (v_2094 : Int32).toInt := (fun q => c_2095 (Int32.toInt_inj.mp q))
                    refine lv_iconst (v := 0) hx hb dX12_named_65 (by decide) ?_
                    refine lv_istore_n (lv' := [(2, .int 0), (3, .int x_2069), (1, .int x_2033), (0, .ref mm)]) hx hb dX12_named_66 rfl hl (by decide) rfl (fun ls hl => ?_)
                    obtain ⟨v_2096, v_2096_e⟩ : ∃ y : Int32, y = x_2069 + Int32.ofInt 1 := ⟨_, rfl⟩
                    have h_v_2096 : 1 ≤ (v_2096 : Int32).toInt ∧ (v_2096 : Int32).toInt ≤ 6 := by rw [v_2096_e]; exact tr_add h_2073 (⟨by decide, by decide⟩ : 1 ≤ (Int32.ofInt 1 : Int32).toInt ∧ (Int32.ofInt 1 : Int32).toInt ≤ 1) (by decide) (by decide) (by decide) (by decide)
                    have q_v_2096 : v_2096.toInt = x_2069.toInt + 1 := by rw [v_2096_e]; exact tr_addE h_2073 (⟨by decide, by decide⟩ : 1 ≤ (Int32.ofInt 1 : Int32).toInt ∧ (Int32.ofInt 1 : Int32).toInt ≤ 1) (by decide) (by decide)
                    refine lv_iinc (v := v_2096) (lv' := [(3, .int v_2096), (2, .int 0), (1, .int x_2033), (0, .ref mm)]) hx hb dX12_named_67 hl (k := 1) rfl v_2096_e.symm (by decide) rfl (fun ls hl => ?_)
                    refine lv_goto (tgt := 16) hx hb dX12_named_70 (by decide) ?_
                    exact ih_2070 0 v_2096 ls (⟨by decide, by decide⟩ : 0 ≤ (0 : Int32).toInt ∧ (0 : Int32).toInt ≤ 1) (tr_w h_v_2096 (by decide) (by decide)) ⟨fun h9 => absurd h9 (by decide), fun _ m9 => by have q0 := m9 x_2069.toInt.toNat (by (first | (clear h_i_undoMany h_i_length h_i_size h_i_p h_i_at h_i_token h_i_number h_i_faultAt h_i_isKnown h_i_toldMany h_x_2068 c_2078_i h_2080; omega) | omega)); have q1 := ka_9; have q2 := kb_9; have z_0 := tk_0; (first | (clear h_i_undoMany h_i_length h_i_size h_i_p h_i_at h_i_token h_i_number h_i_faultAt h_i_isKnown h_i_toldMany h_x_2068 c_2078_i h_2080; omega) | omega)⟩ (by (first | (clear h_i_undoMany h_i_length h_i_size h_i_p h_i_at h_i_token h_i_number h_i_faultAt h_i_isKnown h_i_toldMany h_x_2068 c_2078_i h_2080; omega) | omega)) (lv_sub hl [0, 1, 2, 3] rfl)
                  · skip
                    have c_2095_i : (v_2086 : Int32).toInt = (v_2094 : Int32).toInt := congrArg Int32.toInt c_2095
                    refine lv_iconst (v := 1) hx hb dX12_named_61 (by decide) ?_
                    refine lv_goto (tgt := 66) hx hb dX12_named_62 (by decide) ?_
                    refine lv_istore_n (lv' := [(2, .int 1), (3, .int x_2069), (1, .int x_2033), (0, .ref mm)]) hx hb dX12_named_66 rfl hl (by decide) rfl (fun ls hl => ?_)
                    obtain ⟨v_2097, v_2097_e⟩ : ∃ y : Int32, y = x_2069 + Int32.ofInt 1 := ⟨_, rfl⟩
                    have h_v_2097 : 1 ≤ (v_2097 : Int32).toInt ∧ (v_2097 : Int32).toInt ≤ 6 := by rw [v_2097_e]; exact tr_add h_2073 (⟨by decide, by decide⟩ : 1 ≤ (Int32.ofInt 1 : Int32).toInt ∧ (Int32.ofInt 1 : Int32).toInt ≤ 1) (by decide) (by decide) (by decide) (by decide)
                    have q_v_2097 : v_2097.toInt = x_2069.toInt + 1 := by rw [v_2097_e]; exact tr_addE h_2073 (⟨by decide, by decide⟩ : 1 ≤ (Int32.ofInt 1 : Int32).toInt ∧ (Int32.ofInt 1 : Int32).toInt ≤ 1) (by decide) (by decide)
                    refine lv_iinc (v := v_2097) (lv' := [(3, .int v_2097), (2, .int 1), (1, .int x_2033), (0, .ref mm)]) hx hb dX12_named_67 hl (k := 1) rfl v_2097_e.symm (by decide) rfl (fun ls hl => ?_)
                    refine lv_goto (tgt := 16) hx hb dX12_named_70 (by decide) ?_
                    exact ih_2070 1 v_2097 ls (⟨by decide, by decide⟩ : 0 ≤ (1 : Int32).toInt ∧ (1 : Int32).toInt ≤ 1) (tr_w h_v_2097 (by decide) (by decide)) ⟨fun _ => all_nx (hr2070_0.1 (by (first | (clear h_i_undoMany h_i_length h_i_size h_i_p h_i_at h_i_token h_i_number h_i_faultAt h_i_isKnown h_i_toldMany h_x_2068 c_2078_i h_2080; omega) | omega))) (by have q1 := ka_9; have q2 := kb_9; have z_0 := tk_0; (first | (clear h_i_undoMany h_i_length h_i_size h_i_p h_i_at h_i_token h_i_number h_i_faultAt h_i_isKnown h_i_toldMany h_x_2068 c_2078_i h_2080; omega) | omega)) (by (first | (clear h_i_undoMany h_i_length h_i_size h_i_p h_i_at h_i_token h_i_number h_i_faultAt h_i_isKnown h_i_toldMany h_x_2068 c_2078_i h_2080; omega) | omega)), fun h9 => absurd h9 (by decide)⟩ (by (first | (clear h_i_undoMany h_i_length h_i_size h_i_p h_i_at h_i_token h_i_number h_i_faultAt h_i_isKnown h_i_toldMany h_x_2068 c_2078_i h_2080; omega) | omega)) (lv_sub hl [0, 1, 2, 3] rfl)
        exact lp_2070 7 1 0 ls (⟨by decide, by decide⟩ : 0 ≤ (1 : Int32).toInt ∧ (1 : Int32).toInt ≤ 1) (⟨by decide, by decide⟩ : 0 ≤ (0 : Int32).toInt ∧ (0 : Int32).toInt ≤ 6) ⟨fun _ => fun q h9 => absurd h9 (Nat.not_lt_zero q), fun h9 => absurd h9 (by decide)⟩ (by decide) (lv_sub hl [0, 1, 2, 3] rfl)
  exact lp_2034 13 0 ls (⟨by decide, by decide⟩ : 0 ≤ (0 : Int32).toInt ∧ (0 : Int32).toInt ≤ 12) (fun k h9 => absurd h9 (Nat.not_lt_zero k)) (by decide) (lv_sub hl [0, 1] rfl)
set_option maxHeartbeats 4000000 in
set_option maxRecDepth 100000 in
theorem c_X12_manyOf (l : Launch) (D : va_G) (g : Nat → ClassId) (mm : Nat) (rw : Nat) (p1 : Int32) (i_thrown : Int32) (m_s : Nat) (m_spare : Nat) (m_kept : Nat) (m_undone : Nat) (m_triedWay : Nat) (m_isKept : Nat) (i_undoMany : Int32) (m_tape : Nat) (i_length : Int32) (i_size : Int32) (i_p : Int32) (i_at : Int32) (i_token : Int32) (i_number : Int32) (i_letterMany : Int32) (i_fault : Int32) (i_faultAt : Int32) (m_letters : Nat) (i_isKnown : Int32) (m_choice : Nat) (m_row : Nat) (m_up : Nat) (m_low : Nat) (m_m : Nat) (m_bestUp : Nat) (m_bestLow : Nat) (m_replyUp : Nat) (m_replyLow : Nat) (m_worthUp : Nat) (m_worthLow : Nat) (m_bestWay : Nat) (i_seed : Int32) (m_told : Nat) (i_toldMany : Int32) (rf : Nat → Int32) (h_i_undoMany : 0 ≤ (i_undoMany : Int32).toInt ∧ (i_undoMany : Int32).toInt ≤ 8) (h_i_length : 0 ≤ (i_length : Int32).toInt ∧ (i_length : Int32).toInt ≤ 440) (h_i_size : 0 ≤ (i_size : Int32).toInt ∧ (i_size : Int32).toInt ≤ 440) (h_i_p : 0 ≤ (i_p : Int32).toInt ∧ (i_p : Int32).toInt ≤ 440) (h_i_at : 0 ≤ (i_at : Int32).toInt ∧ (i_at : Int32).toInt ≤ 440) (h_i_token : 0 ≤ (i_token : Int32).toInt ∧ (i_token : Int32).toInt ≤ 4) (h_i_number : 0 ≤ (i_number : Int32).toInt ∧ (i_number : Int32).toInt ≤ 814) (h_i_letterMany : (-440) ≤ (i_letterMany : Int32).toInt ∧ (i_letterMany : Int32).toInt ≤ 440) (h_i_faultAt : 0 ≤ (i_faultAt : Int32).toInt ∧ (i_faultAt : Int32).toInt ≤ 440) (h_i_isKnown : 0 ≤ (i_isKnown : Int32).toInt ∧ (i_isKnown : Int32).toInt ≤ 1) (h_i_toldMany : 0 ≤ (i_toldMany : Int32).toInt ∧ (i_toldMany : Int32).toInt ≤ 900) (hG : GR rf) : Met l yX12_manyOf (.code yX12_manyOf cX12_manyOf 5 (some .int) :: wsL_law) ({ frames := 0, cells := 0, slots := 0, locals := 0 }) (va_Pc [.ref mm, .ref rw, .int p1] (fun U => va_P D vwCl [(mm, .inr (12, (.int i_thrown :: .ref m_s :: .ref m_spare :: .ref m_kept :: .ref m_undone :: .ref m_triedWay :: .ref m_isKept :: .int i_undoMany :: .ref m_tape :: .int i_length :: .int i_size :: .int i_p :: .int i_at :: .int i_token :: .int i_number :: .int i_letterMany :: .int i_fault :: .int i_faultAt :: .ref m_letters :: .int i_isKnown :: .ref m_choice :: .ref m_row :: .ref m_up :: .ref m_low :: .ref m_m :: .ref m_bestUp :: .ref m_bestLow :: .ref m_replyUp :: .ref m_replyLow :: .ref m_worthUp :: .ref m_worthLow :: .ref m_bestWay :: .int i_seed :: .ref m_told :: .int i_toldMany :: []))), (rw, .inl (g 0, 193, .inl rf))] U.heap ∧ va_K D vwCl (TY g) U)) (vp_Si (fun r => (0 ≤ (r : Int32).toInt ∧ (r : Int32).toInt ≤ 12) ∧ ((r : Int32).toInt = gc rf (p1 : Int32).toInt (rf 0).toInt.toNat))) 0 0 (fun _ => False) := by
  refine Met.ofW (cc := cX12_manyOf) (maxL := 5) (ret := (some .int)) (by decide) rfl ?_
  intro p e s m args below meth c s₁ B hml hv
  obtain ⟨ha, hP, hK⟩ := hv
  have hx := B.exec
  have hb := B.bytes
  have hr := B.returns
  have hts0 := atoms_spec (ws := (.code yX12_manyOf cX12_manyOf 5 (some .int) :: wsL_law)) B.pre
  have hts : ∀ w ∈ wsL_law, w.before args s = true := fun w h => hts0 w (List.mem_cons_of_mem _ h)
  have hown : s.vm.findClass RX12 = some m.cls := findClass_of_methodNamed B.named
  have hlocks := B.notSynchronized
  have hP : va_P D vwCl [(mm, .inr (12, (.int i_thrown :: .ref m_s :: .ref m_spare :: .ref m_kept :: .ref m_undone :: .ref m_triedWay :: .ref m_isKept :: .int i_undoMany :: .ref m_tape :: .int i_length :: .int i_size :: .int i_p :: .int i_at :: .int i_token :: .int i_number :: .int i_letterMany :: .int i_fault :: .int i_faultAt :: .ref m_letters :: .int i_isKnown :: .ref m_choice :: .ref m_row :: .ref m_up :: .ref m_low :: .ref m_m :: .ref m_bestUp :: .ref m_bestLow :: .ref m_replyUp :: .ref m_replyLow :: .ref m_worthUp :: .ref m_worthLow :: .ref m_bestWay :: .int i_seed :: .ref m_told :: .int i_toldMany :: []))), (rw, .inl (g 0, 193, .inl rf))] s.heap := hP
  refine W.eq (g2 := entryFrame m ([.ref mm, .ref rw, .int p1] : List Value).toArray 5) (by rw [ha]) ?_
  have hl := lv_entry ([.ref mm, .ref rw, .int p1]) (n := 5) (Nat.le_of_ble_eq_true rfl)
  rw [lg_entry_eq]
  generalize (lg_sl ([.ref mm, .ref rw, .int p1]) ++ List.replicate (5 - (lg_sl ([.ref mm, .ref rw, .int p1])).length) Slot.unset).toArray = ls at hl ⊢
  have hl : lv_has ls 5 [(0, .ref mm), (1, .ref rw), (2, .int p1)] := hl
  refine lv_iconst (v := 0) hx hb dX12_manyOf_0 (by decide) ?_
  refine lv_istore_n (lv' := [(3, .int 0), (0, .ref mm), (1, .ref rw), (2, .int p1)]) hx hb dX12_manyOf_1 rfl hl (by decide) rfl (fun ls hl => ?_)
  refine lv_iconst (v := 0) hx hb dX12_manyOf_2 (by decide) ?_
  refine lv_istore (lv' := [(4, .int 0), (3, .int 0), (0, .ref mm), (1, .ref rw), (2, .int p1)]) hx hb dX12_manyOf_3 hl (by decide) rfl (fun ls hl => ?_)
  have lp_2113 : ∀ (n_2113 : Nat) (x_2111 : Int32) (x_2112 : Int32) (ls : Array Slot), (0 ≤ (x_2111 : Int32).toInt ∧ (x_2111 : Int32).toInt ≤ 12) → (0 ≤ (x_2112 : Int32).toInt ∧ (x_2112 : Int32).toInt ≤ 12) → (x_2111.toInt = gc rf (p1 : Int32).toInt x_2112.toInt.toNat) → (x_2111.toInt ≤ x_2112.toInt ∧ x_2112.toInt ≤ (rf 0).toInt) → (12 - x_2112.toInt < (n_2113 : Int)) → lv_has ls 5 [(4, .int x_2112), (3, .int x_2111), (0, .ref mm), (1, .ref rw), (2, .int p1)] → W p l e (headSpec (.code yX12_manyOf cX12_manyOf 5 (some .int) :: wsL_law) ({ frames := 0, cells := 0, slots := 0, locals := 0 })).room s m args below meth c s.heap [] 0 0 (MQ below (vp_Si (fun r => (0 ≤ (r : Int32).toInt ∧ (r : Int32).toInt ≤ 12) ∧ ((r : Int32).toInt = gc rf (p1 : Int32).toInt (rf 0).toInt.toNat))) args s 0 0 (fun _ => False)) (F0 m 5 ls []) := by
    intro n_2113
    induction n_2113 with
    | zero =>
      intro x_2111 x_2112 ls h_x_2111 h_x_2112 hr2113_0 hr2113_1 hm_2113 hl
      exfalso; omega
    | succ n_2113 ih_2113 =>
      intro x_2111 x_2112 ls h_x_2111 h_x_2112 hr2113_0 hr2113_1 hm_2113 hl
      refine lv_iload hx hb dX12_manyOf_5 (lv_at hl 0 rfl) ?_
      refine lv_aload_n hx hb dX12_manyOf_7 rfl (lv_at hl 3 rfl) ?_
      refine lv_iconst (v := 0) hx hb dX12_manyOf_8 (by decide) ?_
      refine va_iald hx hb hK hP 1 0 rfl rfl (tz_in (by decide +kernel)) dX12_manyOf_9 ?_
      refine lv_topi (fun v_2114 v_2114_e => ?_)
      have h_v_2114 : 0 ≤ (v_2114 : Int32).toInt ∧ (v_2114 : Int32).toInt ≤ 12 := by rw [v_2114_e]; exact gr_nodes hG (⟨by decide, by decide⟩ : 0 ≤ (0 : Int32).toInt ∧ (0 : Int32).toInt ≤ 0)
      have g_v_2114 : v_2114 = rf (0) := v_2114_e.trans (congrArg rf rfl)
      have gi_v_2114 := congrArg Int32.toInt g_v_2114
      refine lv_icmp_ge (tgt := 37) hx hb dX12_manyOf_10 (by decide) (fun c_2115 => ?_) (fun c_2115 => ?_)
      · skip
        have c_2115_i := Int32.le_iff_toInt_le.mp c_2115
        refine lv_iload_n hx hb dX12_manyOf_37 rfl (lv_at hl 1 rfl) ?_
        exact W.iret (v := x_2111) hx hb hr (fun t ht hW => ⟨x_2111, rfl, ⟨(tr_w h_x_2111 (by decide) (by decide)), (hr2113_0.trans (congrArg (gc rf (p1 : Int32).toInt) (by have q8 := congrArg Int32.toInt g_v_2114; (first | (clear h_i_undoMany h_i_length h_i_size h_i_p h_i_at h_i_token h_i_number h_i_letterMany h_i_faultAt h_i_isKnown h_i_toldMany; omega) | omega))))⟩, ht⟩) (fun _ h => nomatch h) dX12_manyOf_38
      · skip
        have c_2115_i := Int32.lt_iff_toInt_lt.mp (Int32.not_le.mp c_2115)
        have h_2116 : 0 ≤ (x_2112 : Int32).toInt ∧ (x_2112 : Int32).toInt ≤ 11 := nr_lt_l h_x_2112 h_v_2114 c_2115_i (by decide) (by decide)
        have h_2117 : 1 ≤ (v_2114 : Int32).toInt ∧ (v_2114 : Int32).toInt ≤ 12 := nr_lt_r h_x_2112 h_v_2114 c_2115_i (by decide) (by decide)
        refine lv_iload_n hx hb dX12_manyOf_13 rfl (lv_at hl 1 rfl) ?_
        refine lv_aload_n hx hb dX12_manyOf_14 rfl (lv_at hl 3 rfl) ?_
        refine lv_iconst (v := 1) hx hb dX12_manyOf_15 (by decide) ?_
        refine lv_iload hx hb dX12_manyOf_16 (lv_at hl 0 rfl) ?_
        refine lv_iadd hx hb dX12_manyOf_18 ?_
        refine lv_topi (fun v_2118 v_2118_e => ?_)
        have h_v_2118 : 1 ≤ (v_2118 : Int32).toInt ∧ (v_2118 : Int32).toInt ≤ 12 := by rw [v_2118_e]; exact tr_add (⟨by decide, by decide⟩ : 1 ≤ (1 : Int32).toInt ∧ (1 : Int32).toInt ≤ 1) h_2116 (by decide) (by decide) (by decide) (by decide)
        have q_v_2118 : v_2118.toInt = 1 + x_2112.toInt := by rw [v_2118_e]; exact (tr_addX (⟨by decide, by decide⟩ : 1 ≤ (1 : Int32).toInt ∧ (1 : Int32).toInt ≤ 1) h_2116 (by decide) (by decide)).trans (by rw [tk_1])
        refine va_iald hx hb hK hP 1 0 rfl rfl (tr_in h_v_2118 (by decide) (by decide)) dX12_manyOf_19 ?_
        refine lv_topi (fun v_2119 v_2119_e => ?_)
        have h_v_2119 : 0 ≤ (v_2119 : Int32).toInt ∧ (v_2119 : Int32).toInt ≤ 3 := by rw [v_2119_e]; exact gr_kind hG (tr_w h_v_2118 (by decide) (by decide))
        have g_v_2119 : v_2119 = rf (1 + x_2112.toInt.toNat) := v_2119_e.trans (congrArg rf (by show Int.toNat _ = _; (first | (clear h_i_undoMany h_i_length h_i_size h_i_p h_i_at h_i_token h_i_number h_i_letterMany h_i_faultAt h_i_isKnown h_i_toldMany h_x_2111; omega) | omega)))
        have gi_v_2119 := congrArg Int32.toInt g_v_2119
        refine lv_iload_n hx hb dX12_manyOf_20 rfl (lv_at hl 4 rfl) ?_
        refine lv_icmp_ne (tgt := 28) hx hb dX12_manyOf_21 (by decide) (fun c_2120 => ?_) (fun c_2120 => ?_)
        · skip
          have c_2120_i : ¬ (v_2119 : Int32).toInt = (p1 : Int32).toInt := (fun q => c_2120 (Int32.toInt_inj.mp q))
          refine lv_iconst (v := 0) hx hb dX12_manyOf_28 (by decide) ?_
          refine lv_iadd hx hb dX12_manyOf_29 ?_
          refine lv_topi (fun v_2121 v_2121_e => ?_)
          have h_v_2121 : 0 ≤ (v_2121 : Int32).toInt ∧ (v_2121 : Int32).toInt ≤ 12 := by rw [v_2121_e]; exact tr_add h_x_2111 (⟨by decide, by decide⟩ : 0 ≤ (0 : Int32).toInt ∧ (0 : Int32).toInt ≤ 0) (by decide) (by decide) (by decide) (by decide)
          have q_v_2121 : v_2121.toInt = x_2111.toInt + 0 := by rw [v_2121_e]; exact tr_addE h_x_2111 (⟨by decide, by decide⟩ : 0 ≤ (0 : Int32).toInt ∧ (0 : Int32).toInt ≤ 0) (by decide) (by decide)
          refine lv_istore_n (lv' := [(3, .int v_2121), (4, .int x_2112), (0, .ref mm), (1, .ref rw), (2, .int p1)]) hx hb dX12_manyOf_30 rfl hl (by decide) rfl (fun ls hl => ?_)
          obtain ⟨v_2122, v_2122_e⟩ : ∃ y : Int32, y = x_2112 + Int32.ofInt 1 := ⟨_, rfl⟩
          have h_v_2122 : 1 ≤ (v_2122 : Int32).toInt ∧ (v_2122 : Int32).toInt ≤ 12 := by rw [v_2122_e]; exact tr_add h_2116 (⟨by decide, by decide⟩ : 1 ≤ (Int32.ofInt 1 : Int32).toInt ∧ (Int32.ofInt 1 : Int32).toInt ≤ 1) (by decide) (by decide) (by decide) (by decide)
          have q_v_2122 : v_2122.toInt = x_2112.toInt + 1 := by rw [v_2122_e]; exact tr_addE h_2116 (⟨by decide, by decide⟩ : 1 ≤ (Int32.ofInt 1 : Int32).toInt ∧ (Int32.ofInt 1 : Int32).toInt ≤ 1) (by decide) (by decide)
          refine lv_iinc (v := v_2122) (lv' := [(4, .int v_2122), (3, .int v_2121), (0, .ref mm), (1, .ref rw), (2, .int p1)]) hx hb dX12_manyOf_31 hl (k := 1) rfl v_2122_e.symm (by decide) rfl (fun ls hl => ?_)
          refine lv_goto (tgt := 5) hx hb dX12_manyOf_34 (by decide) ?_
          exact ih_2113 v_2121 v_2122 ls (tr_w h_v_2121 (by decide) (by decide)) (tr_w h_v_2122 (by decide) (by decide)) ((gc_next (d' := 0) (t := v_2121.toInt) (j := v_2122.toInt.toNat) hr2113_0 g_v_2119 (by (first | (clear h_i_undoMany h_i_length h_i_size h_i_p h_i_at h_i_token h_i_number h_i_letterMany h_i_faultAt h_i_isKnown h_i_toldMany; omega) | omega))).2 (by (first | (clear h_i_undoMany h_i_length h_i_size h_i_p h_i_at h_i_token h_i_number h_i_letterMany h_i_faultAt h_i_isKnown h_i_toldMany; omega) | omega)) (by (first | (clear h_i_undoMany h_i_length h_i_size h_i_p h_i_at h_i_token h_i_number h_i_letterMany h_i_faultAt h_i_isKnown h_i_toldMany; omega) | omega))) (by have z_0 := tk_0; have q9 := hG.1; have q8 := congrArg Int32.toInt g_v_2114; (first | (clear h_i_undoMany h_i_length h_i_size h_i_p h_i_at h_i_token h_i_number h_i_letterMany h_i_faultAt h_i_isKnown h_i_toldMany; omega) | omega)) (by (first | (clear h_i_undoMany h_i_length h_i_size h_i_p h_i_at h_i_token h_i_number h_i_letterMany h_i_faultAt h_i_isKnown h_i_toldMany; omega) | omega)) (lv_sub hl [0, 1, 2, 3, 4] rfl)
        · skip
          have c_2120_i : (v_2119 : Int32).toInt = (p1 : Int32).toInt := congrArg Int32.toInt c_2120
          refine lv_iconst (v := 1) hx hb dX12_manyOf_24 (by decide) ?_
          refine lv_goto (tgt := 29) hx hb dX12_manyOf_25 (by decide) ?_
          refine lv_iadd hx hb dX12_manyOf_29 ?_
          refine lv_topi (fun v_2123 v_2123_e => ?_)
          have h_v_2123 : 1 ≤ (v_2123 : Int32).toInt ∧ (v_2123 : Int32).toInt ≤ 13 := by rw [v_2123_e]; exact tr_add h_x_2111 (⟨by decide, by decide⟩ : 1 ≤ (1 : Int32).toInt ∧ (1 : Int32).toInt ≤ 1) (by decide) (by decide) (by decide) (by decide)
          have q_v_2123 : v_2123.toInt = x_2111.toInt + 1 := by rw [v_2123_e]; exact tr_addE h_x_2111 (⟨by decide, by decide⟩ : 1 ≤ (1 : Int32).toInt ∧ (1 : Int32).toInt ≤ 1) (by decide) (by decide)
          refine lv_istore_n (lv' := [(3, .int v_2123), (4, .int x_2112), (0, .ref mm), (1, .ref rw), (2, .int p1)]) hx hb dX12_manyOf_30 rfl hl (by decide) rfl (fun ls hl => ?_)
          obtain ⟨v_2124, v_2124_e⟩ : ∃ y : Int32, y = x_2112 + Int32.ofInt 1 := ⟨_, rfl⟩
          have h_v_2124 : 1 ≤ (v_2124 : Int32).toInt ∧ (v_2124 : Int32).toInt ≤ 12 := by rw [v_2124_e]; exact tr_add h_2116 (⟨by decide, by decide⟩ : 1 ≤ (Int32.ofInt 1 : Int32).toInt ∧ (Int32.ofInt 1 : Int32).toInt ≤ 1) (by decide) (by decide) (by decide) (by decide)
          have q_v_2124 : v_2124.toInt = x_2112.toInt + 1 := by rw [v_2124_e]; exact tr_addE h_2116 (⟨by decide, by decide⟩ : 1 ≤ (Int32.ofInt 1 : Int32).toInt ∧ (Int32.ofInt 1 : Int32).toInt ≤ 1) (by decide) (by decide)
          refine lv_iinc (v := v_2124) (lv' := [(4, .int v_2124), (3, .int v_2123), (0, .ref mm), (1, .ref rw), (2, .int p1)]) hx hb dX12_manyOf_31 hl (k := 1) rfl v_2124_e.symm (by decide) rfl (fun ls hl => ?_)
          refine lv_goto (tgt := 5) hx hb dX12_manyOf_34 (by decide) ?_
          exact ih_2113 v_2123 v_2124 ls (by (first | (clear h_i_undoMany h_i_length h_i_size h_i_p h_i_at h_i_token h_i_number h_i_letterMany h_i_faultAt h_i_isKnown h_i_toldMany; omega) | omega)) (tr_w h_v_2124 (by decide) (by decide)) ((gc_next (d' := 0) (t := v_2123.toInt) (j := v_2124.toInt.toNat) hr2113_0 g_v_2119 (by (first | (clear h_i_undoMany h_i_length h_i_size h_i_p h_i_at h_i_token h_i_number h_i_letterMany h_i_faultAt h_i_isKnown h_i_toldMany; omega) | omega))).1 (by (first | (clear h_i_undoMany h_i_length h_i_size h_i_p h_i_at h_i_token h_i_number h_i_letterMany h_i_faultAt h_i_isKnown h_i_toldMany; omega) | omega)) (by (first | (clear h_i_undoMany h_i_length h_i_size h_i_p h_i_at h_i_token h_i_number h_i_letterMany h_i_faultAt h_i_isKnown h_i_toldMany; omega) | omega))) (by have z_0 := tk_0; have q9 := hG.1; have q8 := congrArg Int32.toInt g_v_2114; (first | (clear h_i_undoMany h_i_length h_i_size h_i_p h_i_at h_i_token h_i_number h_i_letterMany h_i_faultAt h_i_isKnown h_i_toldMany; omega) | omega)) (by (first | (clear h_i_undoMany h_i_length h_i_size h_i_p h_i_at h_i_token h_i_number h_i_letterMany h_i_faultAt h_i_isKnown h_i_toldMany; omega) | omega)) (lv_sub hl [0, 1, 2, 3, 4] rfl)
  exact lp_2113 13 0 0 ls (⟨by decide, by decide⟩ : 0 ≤ (0 : Int32).toInt ∧ (0 : Int32).toInt ≤ 12) (⟨by decide, by decide⟩ : 0 ≤ (0 : Int32).toInt ∧ (0 : Int32).toInt ≤ 12) rfl (by have z_0 := tk_0; have q9 := hG.1; (first | (clear h_i_undoMany h_i_length h_i_size h_i_p h_i_at h_i_token h_i_number h_i_letterMany h_i_faultAt h_i_isKnown h_i_toldMany; omega) | omega)) (by decide) (lv_sub hl [0, 1, 2, 3, 4] rfl)
set_option maxHeartbeats 4000000 in
set_option maxRecDepth 100000 in
theorem c_X12_weights (l : Launch) (D : va_G) (g : Nat → ClassId) (rw : Nat) (p1 : Int32) (rf : Nat → Int32) (h_p1 : 0 ≤ (p1 : Int32).toInt ∧ (p1 : Int32).toInt ≤ 11) (hG : GR rf) : Met l yX12_weights (.code yX12_weights cX12_weights 4 (some .int) :: wsL_law) ({ frames := 0, cells := 0, slots := 0, locals := 0 }) (va_Pc [.ref rw, .int p1] (fun U => va_P D vwCl [(rw, .inl (g 0, 193, .inl rf))] U.heap ∧ va_K D vwCl (TY g) U)) (vp_Si (fun r => (0 ≤ (r : Int32).toInt ∧ (r : Int32).toInt ≤ 9) ∧ ((r : Int32).toInt = gw rf (p1 : Int32).toInt.toNat (rf (25 + (p1 : Int32).toInt.toNat)).toInt.toNat))) 0 0 (fun _ => False) := by
  refine Met.ofW (cc := cX12_weights) (maxL := 4) (ret := (some .int)) (by decide) rfl ?_
  intro p e s m args below meth c s₁ B hml hv
  obtain ⟨ha, hP, hK⟩ := hv
  have hx := B.exec
  have hb := B.bytes
  have hr := B.returns
  have hts0 := atoms_spec (ws := (.code yX12_weights cX12_weights 4 (some .int) :: wsL_law)) B.pre
  have hts : ∀ w ∈ wsL_law, w.before args s = true := fun w h => hts0 w (List.mem_cons_of_mem _ h)
  have hown : s.vm.findClass RX12 = some m.cls := findClass_of_methodNamed B.named
  have hlocks := B.notSynchronized
  have hP : va_P D vwCl [(rw, .inl (g 0, 193, .inl rf))] s.heap := hP
  refine W.eq (g2 := entryFrame m ([.ref rw, .int p1] : List Value).toArray 4) (by rw [ha]) ?_
  have hl := lv_entry ([.ref rw, .int p1]) (n := 4) (Nat.le_of_ble_eq_true rfl)
  rw [lg_entry_eq]
  generalize (lg_sl ([.ref rw, .int p1]) ++ List.replicate (4 - (lg_sl ([.ref rw, .int p1])).length) Slot.unset).toArray = ls at hl ⊢
  have hl : lv_has ls 4 [(0, .ref rw), (1, .int p1)] := hl
  refine lv_iconst (v := 0) hx hb dX12_weights_0 (by decide) ?_
  refine lv_istore_n (lv' := [(2, .int 0), (0, .ref rw), (1, .int p1)]) hx hb dX12_weights_1 rfl hl (by decide) rfl (fun ls hl => ?_)
  refine lv_iconst (v := 0) hx hb dX12_weights_2 (by decide) ?_
  refine lv_istore_n (lv' := [(3, .int 0), (2, .int 0), (0, .ref rw), (1, .int p1)]) hx hb dX12_weights_3 rfl hl (by decide) rfl (fun ls hl => ?_)
  have lp_2140 : ∀ (n_2140 : Nat) (x_2138 : Int32) (x_2139 : Int32) (ls : Array Slot), (0 ≤ (x_2138 : Int32).toInt ∧ (x_2138 : Int32).toInt ≤ 9) → (0 ≤ (x_2139 : Int32).toInt ∧ (x_2139 : Int32).toInt ≤ 3) → (x_2138.toInt = gw rf (p1 : Int32).toInt.toNat x_2139.toInt.toNat) → (x_2138.toInt ≤ 3 * x_2139.toInt ∧ x_2139.toInt ≤ (rf (25 + (p1 : Int32).toInt.toNat)).toInt) → (3 - x_2139.toInt < (n_2140 : Int)) → lv_has ls 4 [(3, .int x_2139), (2, .int x_2138), (0, .ref rw), (1, .int p1)] → W p l e (headSpec (.code yX12_weights cX12_weights 4 (some .int) :: wsL_law) ({ frames := 0, cells := 0, slots := 0, locals := 0 })).room s m args below meth c s.heap [] 0 0 (MQ below (vp_Si (fun r => (0 ≤ (r : Int32).toInt ∧ (r : Int32).toInt ≤ 9) ∧ ((r : Int32).toInt = gw rf (p1 : Int32).toInt.toNat (rf (25 + (p1 : Int32).toInt.toNat)).toInt.toNat))) args s 0 0 (fun _ => False)) (F0 m 4 ls []) := by
    intro n_2140
    induction n_2140 with
    | zero =>
      intro x_2138 x_2139 ls h_x_2138 h_x_2139 hr2140_0 hr2140_1 hm_2140 hl
      exfalso; omega
    | succ n_2140 ih_2140 =>
      intro x_2138 x_2139 ls h_x_2138 h_x_2139 hr2140_0 hr2140_1 hm_2140 hl
      refine lv_iload_n hx hb dX12_weights_4 rfl (lv_at hl 0 rfl) ?_
      refine lv_aload_n hx hb dX12_weights_5 rfl (lv_at hl 2 rfl) ?_
      refine lv_bipush (v := 25) hx hb dX12_weights_6 (by decide) ?_
      refine lv_iload_n hx hb dX12_weights_8 rfl (lv_at hl 3 rfl) ?_
      refine lv_iadd hx hb dX12_weights_9 ?_
      refine lv_topi (fun v_2141 v_2141_e => ?_)
      have h_v_2141 : 25 ≤ (v_2141 : Int32).toInt ∧ (v_2141 : Int32).toInt ≤ 36 := by rw [v_2141_e]; exact tr_add (⟨by decide, by decide⟩ : 25 ≤ (25 : Int32).toInt ∧ (25 : Int32).toInt ≤ 25) h_p1 (by decide) (by decide) (by decide) (by decide)
      have q_v_2141 : v_2141.toInt = 25 + p1.toInt := by rw [v_2141_e]; exact (tr_addX (⟨by decide, by decide⟩ : 25 ≤ (25 : Int32).toInt ∧ (25 : Int32).toInt ≤ 25) h_p1 (by decide) (by decide)).trans (by rw [tk_25])
      refine va_iald hx hb hK hP 0 0 rfl rfl (tr_in h_v_2141 (by decide) (by decide)) dX12_weights_10 ?_
      refine lv_topi (fun v_2142 v_2142_e => ?_)
      have h_v_2142 : 0 ≤ (v_2142 : Int32).toInt ∧ (v_2142 : Int32).toInt ≤ 3 := by rw [v_2142_e]; exact gr_ways hG (tr_w h_v_2141 (by decide) (by decide))
      have g_v_2142 : v_2142 = rf (25 + p1.toInt.toNat) := v_2142_e.trans (congrArg rf (by show Int.toNat _ = _; omega))
      have gi_v_2142 := congrArg Int32.toInt g_v_2142
      refine lv_icmp_ge (tgt := 33) hx hb dX12_weights_11 (by decide) (fun c_2143 => ?_) (fun c_2143 => ?_)
      · skip
        have c_2143_i := Int32.le_iff_toInt_le.mp c_2143
        refine lv_iload_n hx hb dX12_weights_33 rfl (lv_at hl 1 rfl) ?_
        exact W.iret (v := x_2138) hx hb hr (fun t ht hW => ⟨x_2138, rfl, ⟨(tr_w h_x_2138 (by decide) (by decide)), (hr2140_0.trans (congrArg (gw rf (p1 : Int32).toInt.toNat) (by have q8 := congrArg Int32.toInt g_v_2142; omega)))⟩, ht⟩) (fun _ h => nomatch h) dX12_weights_34
      · skip
        have c_2143_i := Int32.lt_iff_toInt_lt.mp (Int32.not_le.mp c_2143)
        have h_2144 : 0 ≤ (x_2139 : Int32).toInt ∧ (x_2139 : Int32).toInt ≤ 2 := nr_lt_l h_x_2139 h_v_2142 c_2143_i (by decide) (by decide)
        have h_2145 : 1 ≤ (v_2142 : Int32).toInt ∧ (v_2142 : Int32).toInt ≤ 3 := nr_lt_r h_x_2139 h_v_2142 c_2143_i (by decide) (by decide)
        refine lv_iload_n hx hb dX12_weights_14 rfl (lv_at hl 1 rfl) ?_
        refine lv_aload_n hx hb dX12_weights_15 rfl (lv_at hl 2 rfl) ?_
        refine lv_bipush (v := 73) hx hb dX12_weights_16 (by decide) ?_
        refine lv_iconst (v := 3) hx hb dX12_weights_18 (by decide) ?_
        refine lv_iload_n hx hb dX12_weights_19 rfl (lv_at hl 3 rfl) ?_
        refine lv_imul hx hb dX12_weights_20 ?_
        refine lv_topi (fun v_2146 v_2146_e => ?_)
        have h_v_2146 : 0 ≤ (v_2146 : Int32).toInt ∧ (v_2146 : Int32).toInt ≤ 33 := by rw [v_2146_e]; exact tr_mul (⟨by decide, by decide⟩ : 3 ≤ (3 : Int32).toInt ∧ (3 : Int32).toInt ≤ 3) h_p1 (by decide) (by decide) (by decide) (by decide)
        have q_v_2146 : v_2146.toInt = 3 * p1.toInt := by rw [v_2146_e]; exact (tr_mulX (⟨by decide, by decide⟩ : 3 ≤ (3 : Int32).toInt ∧ (3 : Int32).toInt ≤ 3) h_p1 (by decide) (by decide)).trans (by rw [tk_3])
        refine lv_iadd hx hb dX12_weights_21 ?_
        refine lv_topi (fun v_2147 v_2147_e => ?_)
        have h_v_2147 : 73 ≤ (v_2147 : Int32).toInt ∧ (v_2147 : Int32).toInt ≤ 106 := by rw [v_2147_e]; exact tr_add (⟨by decide, by decide⟩ : 73 ≤ (73 : Int32).toInt ∧ (73 : Int32).toInt ≤ 73) h_v_2146 (by decide) (by decide) (by decide) (by decide)
        have q_v_2147 : v_2147.toInt = 73 + v_2146.toInt := by rw [v_2147_e]; exact (tr_addX (⟨by decide, by decide⟩ : 73 ≤ (73 : Int32).toInt ∧ (73 : Int32).toInt ≤ 73) h_v_2146 (by decide) (by decide)).trans (by rw [tk_73])
        refine lv_iload_n hx hb dX12_weights_22 rfl (lv_at hl 0 rfl) ?_
        refine lv_iadd hx hb dX12_weights_23 ?_
        refine lv_topi (fun v_2148 v_2148_e => ?_)
        have h_v_2148 : 73 ≤ (v_2148 : Int32).toInt ∧ (v_2148 : Int32).toInt ≤ 108 := by rw [v_2148_e]; exact tr_add h_v_2147 h_2144 (by decide) (by decide) (by decide) (by decide)
        have q_v_2148 : v_2148.toInt = v_2147.toInt + x_2139.toInt := by rw [v_2148_e]; exact tr_addX h_v_2147 h_2144 (by decide) (by decide)
        refine va_iald hx hb hK hP 0 0 rfl rfl (tr_in h_v_2148 (by decide) (by decide)) dX12_weights_24 ?_
        refine lv_topi (fun v_2149 v_2149_e => ?_)
        have h_v_2149 : 0 ≤ (v_2149 : Int32).toInt ∧ (v_2149 : Int32).toInt ≤ 3 := by rw [v_2149_e]; exact gr_heavy hG (tr_w h_v_2148 (by decide) (by decide))
        have g_v_2149 : v_2149 = rf (73 + 3 * p1.toInt.toNat + x_2139.toInt.toNat) := v_2149_e.trans (congrArg rf (by show Int.toNat _ = _; omega))
        have gi_v_2149 := congrArg Int32.toInt g_v_2149
        refine lv_iadd hx hb dX12_weights_25 ?_
        refine lv_topi (fun v_2150 v_2150_e => ?_)
        have h_v_2150 : 0 ≤ (v_2150 : Int32).toInt ∧ (v_2150 : Int32).toInt ≤ 12 := by rw [v_2150_e]; exact tr_add h_x_2138 h_v_2149 (by decide) (by decide) (by decide) (by decide)
        have q_v_2150 : v_2150.toInt = x_2138.toInt + v_2149.toInt := by rw [v_2150_e]; exact tr_addX h_x_2138 h_v_2149 (by decide) (by decide)
        refine lv_istore_n (lv' := [(2, .int v_2150), (3, .int x_2139), (0, .ref rw), (1, .int p1)]) hx hb dX12_weights_26 rfl hl (by decide) rfl (fun ls hl => ?_)
        obtain ⟨v_2151, v_2151_e⟩ : ∃ y : Int32, y = x_2139 + Int32.ofInt 1 := ⟨_, rfl⟩
        have h_v_2151 : 1 ≤ (v_2151 : Int32).toInt ∧ (v_2151 : Int32).toInt ≤ 3 := by rw [v_2151_e]; exact tr_add h_2144 (⟨by decide, by decide⟩ : 1 ≤ (Int32.ofInt 1 : Int32).toInt ∧ (Int32.ofInt 1 : Int32).toInt ≤ 1) (by decide) (by decide) (by decide) (by decide)
        have q_v_2151 : v_2151.toInt = x_2139.toInt + 1 := by rw [v_2151_e]; exact tr_addE h_2144 (⟨by decide, by decide⟩ : 1 ≤ (Int32.ofInt 1 : Int32).toInt ∧ (Int32.ofInt 1 : Int32).toInt ≤ 1) (by decide) (by decide)
        refine lv_iinc (v := v_2151) (lv' := [(3, .int v_2151), (2, .int v_2150), (0, .ref rw), (1, .int p1)]) hx hb dX12_weights_27 hl (k := 1) rfl v_2151_e.symm (by decide) rfl (fun ls hl => ?_)
        refine lv_goto (tgt := 4) hx hb dX12_weights_30 (by decide) ?_
        exact ih_2140 v_2150 v_2151 ls (by omega) (tr_w h_v_2151 (by decide) (by decide)) (gw_next (t := v_2150.toInt) (j := v_2151.toInt.toNat) hr2140_0 g_v_2149 (by omega) (by omega)) (by have z_0 := tk_0; have q9 := (hG.2.1 (p1 : Int32).toInt.toNat (by omega)).2.2.1; have q8 := congrArg Int32.toInt g_v_2142; omega) (by omega) (lv_sub hl [0, 1, 2, 3] rfl)
  exact lp_2140 4 0 0 ls (⟨by decide, by decide⟩ : 0 ≤ (0 : Int32).toInt ∧ (0 : Int32).toInt ≤ 9) (⟨by decide, by decide⟩ : 0 ≤ (0 : Int32).toInt ∧ (0 : Int32).toInt ≤ 3) rfl (by have z_0 := tk_0; have q9 := (hG.2.1 (p1 : Int32).toInt.toNat (by omega)).2.2.1; omega) (by decide) (lv_sub hl [0, 1, 2, 3] rfl)
set_option maxHeartbeats 4000000 in
set_option maxRecDepth 100000 in
theorem c_X12_copies (l : Launch) (D : va_G) (g : Nat → ClassId) (sz : Nat) (fa : Nat) (p1 : Int32) (ta : Nat) (p3 : Int32) (ff : Nat → Int32) (tf : Nat → Int32) (h_p1 : 0 ≤ (p1 : Int32).toInt ∧ (p1 : Int32).toInt ≤ 0) (h_p3 : 0 ≤ (p3 : Int32).toInt ∧ (p3 : Int32).toInt ≤ 0) : Met l yX12_copies (.code yX12_copies cX12_copies 5 none :: wsL_law) ({ frames := 0, cells := 0, slots := 0, locals := 0 }) (va_Pc [.ref fa, .int p1, .ref ta, .int p3] (fun U => U.heap.size = sz ∧ va_P D vwCl [(fa, .inl (g 0, 193, .inl ff)), (ta, .inl (g 0, 193, .inl tf))] U.heap ∧ va_K D vwCl (TY g) U ∧ va_D (fun _ => True) [(fa, .inl (g 0, 193, .inl ff)), (ta, .inl (g 0, 193, .inl tf))])) (va_Qv (fun (_ : Unit) => True) (fun _ t => ∃ otf : Nat → Int32, (otf = va_cpy ff tf (p1 : Int32).toInt.toNat (p3 : Int32).toInt.toNat 193) ∧ va_P D vwCl [(fa, .inl (g 0, 193, .inl ff)), (ta, .inl (g 0, 193, .inl otf))] t.heap ∧ va_D (va_A [(fa, .inl (g 0, 193, .inl ff)), (ta, .inl (g 0, 193, .inl tf))] sz) [(fa, .inl (g 0, 193, .inl ff)), (ta, .inl (g 0, 193, .inl otf))]) (va_A [(fa, .inl (g 0, 193, .inl ff)), (ta, .inl (g 0, 193, .inl tf))] sz)) 0 0 (va_A [(fa, .inl (g 0, 193, .inl ff)), (ta, .inl (g 0, 193, .inl tf))] sz) := by
  refine Met.ofW (cc := cX12_copies) (maxL := 5) (ret := none) (by decide) rfl ?_
  intro p e s m args below meth c s₁ B hml hv
  obtain ⟨ha, hsz, hP, hK, hD0⟩ := hv
  have hx := B.exec
  have hb := B.bytes
  have hr := B.returns
  have hts0 := atoms_spec (ws := (.code yX12_copies cX12_copies 5 none :: wsL_law)) B.pre
  have hts : ∀ w ∈ wsL_law, w.before args s = true := fun w h => hts0 w (List.mem_cons_of_mem _ h)
  have hown : s.vm.findClass RX12 = some m.cls := findClass_of_methodNamed B.named
  have hlocks := B.notSynchronized
  subst hsz
  have hD := hD0.self (sz := s.heap.size)
  generalize hAe : va_A [(fa, .inl (g 0, 193, .inl ff)), (ta, .inl (g 0, 193, .inl tf))] s.heap.size = A at hD ⊢
  have hA : ∀ q : Nat, s.heap.size ≤ q → A q := fun q h => by rw [← hAe]; exact Or.inr h
  have hS : va_S A s.heap s.heap [] := va_S.rf
  have hP : va_P D vwCl [(fa, .inl (g 0, 193, .inl ff)), (ta, .inl (g 0, 193, .inl tf))] s.heap := hP
  refine W.eq (g2 := entryFrame m ([.ref fa, .int p1, .ref ta, .int p3] : List Value).toArray 5) (by rw [ha]) ?_
  have hl := lv_entry ([.ref fa, .int p1, .ref ta, .int p3]) (n := 5) (Nat.le_of_ble_eq_true rfl)
  rw [lg_entry_eq]
  generalize (lg_sl ([.ref fa, .int p1, .ref ta, .int p3]) ++ List.replicate (5 - (lg_sl ([.ref fa, .int p1, .ref ta, .int p3])).length) Slot.unset).toArray = ls at hl ⊢
  have hl : lv_has ls 5 [(0, .ref fa), (1, .int p1), (2, .ref ta), (3, .int p3)] := hl
  refine lv_iconst (v := 0) hx hb dX12_copies_0 (by decide) ?_
  refine lv_istore (lv' := [(4, .int 0), (0, .ref fa), (1, .int p1), (2, .ref ta), (3, .int p3)]) hx hb dX12_copies_1 hl (by decide) rfl (fun ls hl => ?_)
  have lp_2173 : ∀ (n_2173 : Nat) (x_2171 : Int32) (f_2172 : Nat → Int32) (H : Heap) (locs : List Loc) (ls : Array Slot), (0 ≤ (x_2171 : Int32).toInt ∧ (x_2171 : Int32).toInt ≤ 193) → (f_2172 = va_cpy ff tf p1.toInt.toNat p3.toInt.toNat x_2171.toInt.toNat) → (193 - x_2171.toInt < (n_2173 : Int)) → va_P D vwCl [(fa, .inl (g 0, 193, .inl ff)), (ta, .inl (g 0, 193, .inl f_2172))] H → va_D A [(fa, .inl (g 0, 193, .inl ff)), (ta, .inl (g 0, 193, .inl f_2172))] → va_S A s.heap H locs → lv_has ls 5 [(4, .int x_2171), (0, .ref fa), (1, .int p1), (2, .ref ta), (3, .int p3)] → W p l e (headSpec (.code yX12_copies cX12_copies 5 none :: wsL_law) ({ frames := 0, cells := 0, slots := 0, locals := 0 })).room s m args below meth c H locs 0 0 (MQ below (va_Qv (fun (_ : Unit) => True) (fun _ t => ∃ otf : Nat → Int32, (otf = va_cpy ff tf (p1 : Int32).toInt.toNat (p3 : Int32).toInt.toNat 193) ∧ va_P D vwCl [(fa, .inl (g 0, 193, .inl ff)), (ta, .inl (g 0, 193, .inl otf))] t.heap ∧ va_D A [(fa, .inl (g 0, 193, .inl ff)), (ta, .inl (g 0, 193, .inl otf))]) A) args s 0 0 A) (F0 m 3 ls []) := by
    intro n_2173
    induction n_2173 with
    | zero =>
      intro x_2171 f_2172 H locs ls h_x_2171 hr2173_0 hm_2173 hP hD hS hl
      exfalso; omega
    | succ n_2173 ih_2173 =>
      intro x_2171 f_2172 H locs ls h_x_2171 hr2173_0 hm_2173 hP hD hS hl
      refine lv_iload hx hb dX12_copies_3 (lv_at hl 0 rfl) ?_
      refine lv_sipush (v := 193) hx hb dX12_copies_5 (by decide) ?_
      refine lv_icmp_ge (tgt := 29) hx hb dX12_copies_8 (by decide) (fun c_2174 => ?_) (fun c_2174 => ?_)
      · skip
        have kk_193 := tk_193
        have c_2174_i := Int32.le_iff_toInt_le.mp c_2174
        have h_2175 : 193 ≤ (x_2171 : Int32).toInt ∧ (x_2171 : Int32).toInt ≤ 193 := nr_le_r (⟨by decide, by decide⟩ : 193 ≤ (193 : Int32).toInt ∧ (193 : Int32).toInt ≤ 193) h_x_2171 c_2174_i (by decide) (by decide)
        have hP9 := hP.sub (ws' := [(fa, .inl (g 0, 193, .inl ff)), (ta, .inl (g 0, 193, .inl f_2172))]) [0, 1] rfl
        have hD9 := hD.sub (ws' := [(fa, .inl (g 0, 193, .inl ff)), (ta, .inl (g 0, 193, .inl f_2172))]) [0, 1] (by decide) rfl
        exact W.vret hx hb hr (fun t ht hW => ⟨⟨(), rfl, trivial, f_2172, (hr2173_0.trans (congrArg (va_cpy ff tf p1.toInt.toNat p3.toInt.toNat) (by have z_193 := tk_193; omega))), by rw [ht]; exact hP9, hD9⟩, hS.F ht⟩) hS.2.2 dX12_copies_29
      · skip
        have kk_193 := tk_193
        have c_2174_i := Int32.lt_iff_toInt_lt.mp (Int32.not_le.mp c_2174)
        have h_2176 : 0 ≤ (x_2171 : Int32).toInt ∧ (x_2171 : Int32).toInt ≤ 192 := nr_lt_l h_x_2171 (⟨by decide, by decide⟩ : 193 ≤ (193 : Int32).toInt ∧ (193 : Int32).toInt ≤ 193) c_2174_i (by decide) (by decide)
        refine lv_aload_n hx hb dX12_copies_11 rfl (lv_at hl 3 rfl) ?_
        refine lv_iload_n hx hb dX12_copies_12 rfl (lv_at hl 4 rfl) ?_
        refine lv_iload hx hb dX12_copies_13 (lv_at hl 0 rfl) ?_
        refine lv_iadd hx hb dX12_copies_15 ?_
        refine lv_topi (fun v_2177 v_2177_e => ?_)
        have h_v_2177 : 0 ≤ (v_2177 : Int32).toInt ∧ (v_2177 : Int32).toInt ≤ 192 := by rw [v_2177_e]; exact tr_add h_p3 h_2176 (by decide) (by decide) (by decide) (by decide)
        have q_v_2177 : v_2177.toInt = p3.toInt + x_2171.toInt := by rw [v_2177_e]; exact tr_addX h_p3 h_2176 (by decide) (by decide)
        refine lv_aload_n hx hb dX12_copies_16 rfl (lv_at hl 1 rfl) ?_
        refine lv_iload_n hx hb dX12_copies_17 rfl (lv_at hl 2 rfl) ?_
        refine lv_iload hx hb dX12_copies_18 (lv_at hl 0 rfl) ?_
        refine lv_iadd hx hb dX12_copies_20 ?_
        refine lv_topi (fun v_2178 v_2178_e => ?_)
        have h_v_2178 : 0 ≤ (v_2178 : Int32).toInt ∧ (v_2178 : Int32).toInt ≤ 192 := by rw [v_2178_e]; exact tr_add h_p1 h_2176 (by decide) (by decide) (by decide) (by decide)
        have q_v_2178 : v_2178.toInt = p1.toInt + x_2171.toInt := by rw [v_2178_e]; exact tr_addX h_p1 h_2176 (by decide) (by decide)
        refine va_iald hx hb hK hP 0 0 rfl rfl (tr_in h_v_2178 (by decide) (by decide)) dX12_copies_21 ?_
        refine lv_topi (fun v_2179 v_2179_e => ?_)
        have g_v_2179 : v_2179 = ff (p1.toInt.toNat + x_2171.toInt.toNat) := v_2179_e.trans (congrArg ff (by show Int.toNat _ = _; omega))
        have gi_v_2179 := congrArg Int32.toInt g_v_2179
        refine va_iast hx hb hK hP hD hS 1 0 rfl rfl (tr_in h_v_2177 (by decide) (by decide)) dX12_copies_22 (fun H locs hP hD hS => ?_)
        obtain ⟨f_2180, f_2180_e, hP, hD⟩ : ∃ FX : Nat → Int32, FX = (upd f_2172 (v_2177 : Int32).toNatClampNeg v_2179) ∧ va_P D vwCl [(fa, .inl (g 0, 193, .inl ff)), (ta, .inl (g 0, 193, .inl FX))] H ∧ va_D A [(fa, .inl (g 0, 193, .inl ff)), (ta, .inl (g 0, 193, .inl FX))] := ⟨_, rfl, hP, hD⟩
        have hP : va_P D vwCl [(fa, .inl (g 0, 193, .inl ff)), (ta, .inl (g 0, 193, .inl f_2180))] H := hP
        have hD : va_D A [(fa, .inl (g 0, 193, .inl ff)), (ta, .inl (g 0, 193, .inl f_2180))] := hD
        obtain ⟨v_2181, v_2181_e⟩ : ∃ y : Int32, y = x_2171 + Int32.ofInt 1 := ⟨_, rfl⟩
        have h_v_2181 : 1 ≤ (v_2181 : Int32).toInt ∧ (v_2181 : Int32).toInt ≤ 193 := by rw [v_2181_e]; exact tr_add h_2176 (⟨by decide, by decide⟩ : 1 ≤ (Int32.ofInt 1 : Int32).toInt ∧ (Int32.ofInt 1 : Int32).toInt ≤ 1) (by decide) (by decide) (by decide) (by decide)
        have q_v_2181 : v_2181.toInt = x_2171.toInt + 1 := by rw [v_2181_e]; exact tr_addE h_2176 (⟨by decide, by decide⟩ : 1 ≤ (Int32.ofInt 1 : Int32).toInt ∧ (Int32.ofInt 1 : Int32).toInt ≤ 1) (by decide) (by decide)
        refine lv_iinc (v := v_2181) (lv' := [(4, .int v_2181), (0, .ref fa), (1, .int p1), (2, .ref ta), (3, .int p3)]) hx hb dX12_copies_23 hl (k := 0) rfl v_2181_e.symm (by decide) rfl (fun ls hl => ?_)
        refine lv_goto (tgt := 3) hx hb dX12_copies_26 (by decide) ?_
        exact ih_2173 v_2181 f_2180 H _ ls (tr_w h_v_2181 (by decide) (by decide)) (by rw [f_2180_e, show v_2181.toInt.toNat = _ + 1 from (by omega : _ = x_2171.toInt.toNat + 1)]; exact va_cpy_step hr2173_0 (by show Int.toNat _ = _; omega) g_v_2179) (by omega) (hP.sub [0, 1] rfl) (hD.sub [0, 1] (by decide) rfl) hS (lv_sub hl [0, 1, 2, 3, 4] rfl)
  exact lp_2173 194 0 tf s.heap _ ls (⟨by decide, by decide⟩ : 0 ≤ (0 : Int32).toInt ∧ (0 : Int32).toInt ≤ 193) (va_cpy_zero _ _ _ _) (by decide) (hP.sub [0, 1] rfl) (hD.sub [0, 1] (by decide) rfl) hS (lv_sub hl [0, 1, 2, 3, 4] rfl)
set_option maxHeartbeats 4000000 in
set_option maxRecDepth 100000 in
theorem c_X12_copiesK (l : Launch) (D : va_G) (g : Nat → ClassId) (sz : Nat) (fa : Nat) (p1 : Int32) (ta : Nat) (p3 : Int32) (ff : Nat → Int32) (tf : Nat → Int32) (h_p1 : 0 ≤ (p1 : Int32).toInt ∧ (p1 : Int32).toInt ≤ 0) (h_p3 : 0 ≤ (p3 : Int32).toInt ∧ (p3 : Int32).toInt ≤ 193) : Met l yX12_copies (.code yX12_copies cX12_copies 5 none :: wsL_law) ({ frames := 0, cells := 0, slots := 0, locals := 0 }) (va_Pc [.ref fa, .int p1, .ref ta, .int p3] (fun U => U.heap.size = sz ∧ va_P D vwCl [(fa, .inl (g 0, 193, .inl ff)), (ta, .inl (g 0, 386, .inl tf))] U.heap ∧ va_K D vwCl (TY g) U ∧ va_D (fun _ => True) [(fa, .inl (g 0, 193, .inl ff)), (ta, .inl (g 0, 386, .inl tf))])) (va_Qv (fun (_ : Unit) => True) (fun _ t => ∃ otf : Nat → Int32, (otf = va_cpy ff tf (p1 : Int32).toInt.toNat (p3 : Int32).toInt.toNat 193) ∧ va_P D vwCl [(fa, .inl (g 0, 193, .inl ff)), (ta, .inl (g 0, 386, .inl otf))] t.heap ∧ va_D (va_A [(fa, .inl (g 0, 193, .inl ff)), (ta, .inl (g 0, 386, .inl tf))] sz) [(fa, .inl (g 0, 193, .inl ff)), (ta, .inl (g 0, 386, .inl otf))]) (va_A [(fa, .inl (g 0, 193, .inl ff)), (ta, .inl (g 0, 386, .inl tf))] sz)) 0 0 (va_A [(fa, .inl (g 0, 193, .inl ff)), (ta, .inl (g 0, 386, .inl tf))] sz) := by
  refine Met.ofW (cc := cX12_copies) (maxL := 5) (ret := none) (by decide) rfl ?_
  intro p e s m args below meth c s₁ B hml hv
  obtain ⟨ha, hsz, hP, hK, hD0⟩ := hv
  have hx := B.exec
  have hb := B.bytes
  have hr := B.returns
  have hts0 := atoms_spec (ws := (.code yX12_copies cX12_copies 5 none :: wsL_law)) B.pre
  have hts : ∀ w ∈ wsL_law, w.before args s = true := fun w h => hts0 w (List.mem_cons_of_mem _ h)
  have hown : s.vm.findClass RX12 = some m.cls := findClass_of_methodNamed B.named
  have hlocks := B.notSynchronized
  subst hsz
  have hD := hD0.self (sz := s.heap.size)
  generalize hAe : va_A [(fa, .inl (g 0, 193, .inl ff)), (ta, .inl (g 0, 386, .inl tf))] s.heap.size = A at hD ⊢
  have hA : ∀ q : Nat, s.heap.size ≤ q → A q := fun q h => by rw [← hAe]; exact Or.inr h
  have hS : va_S A s.heap s.heap [] := va_S.rf
  have hP : va_P D vwCl [(fa, .inl (g 0, 193, .inl ff)), (ta, .inl (g 0, 386, .inl tf))] s.heap := hP
  refine W.eq (g2 := entryFrame m ([.ref fa, .int p1, .ref ta, .int p3] : List Value).toArray 5) (by rw [ha]) ?_
  have hl := lv_entry ([.ref fa, .int p1, .ref ta, .int p3]) (n := 5) (Nat.le_of_ble_eq_true rfl)
  rw [lg_entry_eq]
  generalize (lg_sl ([.ref fa, .int p1, .ref ta, .int p3]) ++ List.replicate (5 - (lg_sl ([.ref fa, .int p1, .ref ta, .int p3])).length) Slot.unset).toArray = ls at hl ⊢
  have hl : lv_has ls 5 [(0, .ref fa), (1, .int p1), (2, .ref ta), (3, .int p3)] := hl
  refine lv_iconst (v := 0) hx hb dX12_copies_0 (by decide) ?_
  refine lv_istore (lv' := [(4, .int 0), (0, .ref fa), (1, .int p1), (2, .ref ta), (3, .int p3)]) hx hb dX12_copies_1 hl (by decide) rfl (fun ls hl => ?_)
  have lp_2203 : ∀ (n_2203 : Nat) (x_2201 : Int32) (f_2202 : Nat → Int32) (H : Heap) (locs : List Loc) (ls : Array Slot), (0 ≤ (x_2201 : Int32).toInt ∧ (x_2201 : Int32).toInt ≤ 193) → (f_2202 = va_cpy ff tf p1.toInt.toNat p3.toInt.toNat x_2201.toInt.toNat) → (193 - x_2201.toInt < (n_2203 : Int)) → va_P D vwCl [(fa, .inl (g 0, 193, .inl ff)), (ta, .inl (g 0, 386, .inl f_2202))] H → va_D A [(fa, .inl (g 0, 193, .inl ff)), (ta, .inl (g 0, 386, .inl f_2202))] → va_S A s.heap H locs → lv_has ls 5 [(4, .int x_2201), (0, .ref fa), (1, .int p1), (2, .ref ta), (3, .int p3)] → W p l e (headSpec (.code yX12_copies cX12_copies 5 none :: wsL_law) ({ frames := 0, cells := 0, slots := 0, locals := 0 })).room s m args below meth c H locs 0 0 (MQ below (va_Qv (fun (_ : Unit) => True) (fun _ t => ∃ otf : Nat → Int32, (otf = va_cpy ff tf (p1 : Int32).toInt.toNat (p3 : Int32).toInt.toNat 193) ∧ va_P D vwCl [(fa, .inl (g 0, 193, .inl ff)), (ta, .inl (g 0, 386, .inl otf))] t.heap ∧ va_D A [(fa, .inl (g 0, 193, .inl ff)), (ta, .inl (g 0, 386, .inl otf))]) A) args s 0 0 A) (F0 m 3 ls []) := by
    intro n_2203
    induction n_2203 with
    | zero =>
      intro x_2201 f_2202 H locs ls h_x_2201 hr2203_0 hm_2203 hP hD hS hl
      exfalso; omega
    | succ n_2203 ih_2203 =>
      intro x_2201 f_2202 H locs ls h_x_2201 hr2203_0 hm_2203 hP hD hS hl
      refine lv_iload hx hb dX12_copies_3 (lv_at hl 0 rfl) ?_
      refine lv_sipush (v := 193) hx hb dX12_copies_5 (by decide) ?_
      refine lv_icmp_ge (tgt := 29) hx hb dX12_copies_8 (by decide) (fun c_2204 => ?_) (fun c_2204 => ?_)
      · skip
        have kk_193 := tk_193
        have c_2204_i := Int32.le_iff_toInt_le.mp c_2204
        have h_2205 : 193 ≤ (x_2201 : Int32).toInt ∧ (x_2201 : Int32).toInt ≤ 193 := nr_le_r (⟨by decide, by decide⟩ : 193 ≤ (193 : Int32).toInt ∧ (193 : Int32).toInt ≤ 193) h_x_2201 c_2204_i (by decide) (by decide)
        have hP9 := hP.sub (ws' := [(fa, .inl (g 0, 193, .inl ff)), (ta, .inl (g 0, 386, .inl f_2202))]) [0, 1] rfl
        have hD9 := hD.sub (ws' := [(fa, .inl (g 0, 193, .inl ff)), (ta, .inl (g 0, 386, .inl f_2202))]) [0, 1] (by decide) rfl
        exact W.vret hx hb hr (fun t ht hW => ⟨⟨(), rfl, trivial, f_2202, (hr2203_0.trans (congrArg (va_cpy ff tf p1.toInt.toNat p3.toInt.toNat) (by have z_193 := tk_193; omega))), by rw [ht]; exact hP9, hD9⟩, hS.F ht⟩) hS.2.2 dX12_copies_29
      · skip
        have kk_193 := tk_193
        have c_2204_i := Int32.lt_iff_toInt_lt.mp (Int32.not_le.mp c_2204)
        have h_2206 : 0 ≤ (x_2201 : Int32).toInt ∧ (x_2201 : Int32).toInt ≤ 192 := nr_lt_l h_x_2201 (⟨by decide, by decide⟩ : 193 ≤ (193 : Int32).toInt ∧ (193 : Int32).toInt ≤ 193) c_2204_i (by decide) (by decide)
        refine lv_aload_n hx hb dX12_copies_11 rfl (lv_at hl 3 rfl) ?_
        refine lv_iload_n hx hb dX12_copies_12 rfl (lv_at hl 4 rfl) ?_
        refine lv_iload hx hb dX12_copies_13 (lv_at hl 0 rfl) ?_
        refine lv_iadd hx hb dX12_copies_15 ?_
        refine lv_topi (fun v_2207 v_2207_e => ?_)
        have h_v_2207 : 0 ≤ (v_2207 : Int32).toInt ∧ (v_2207 : Int32).toInt ≤ 385 := by rw [v_2207_e]; exact tr_add h_p3 h_2206 (by decide) (by decide) (by decide) (by decide)
        have q_v_2207 : v_2207.toInt = p3.toInt + x_2201.toInt := by rw [v_2207_e]; exact tr_addX h_p3 h_2206 (by decide) (by decide)
        refine lv_aload_n hx hb dX12_copies_16 rfl (lv_at hl 1 rfl) ?_
        refine lv_iload_n hx hb dX12_copies_17 rfl (lv_at hl 2 rfl) ?_
        refine lv_iload hx hb dX12_copies_18 (lv_at hl 0 rfl) ?_
        refine lv_iadd hx hb dX12_copies_20 ?_
        refine lv_topi (fun v_2208 v_2208_e => ?_)
        have h_v_2208 : 0 ≤ (v_2208 : Int32).toInt ∧ (v_2208 : Int32).toInt ≤ 192 := by rw [v_2208_e]; exact tr_add h_p1 h_2206 (by decide) (by decide) (by decide) (by decide)
        have q_v_2208 : v_2208.toInt = p1.toInt + x_2201.toInt := by rw [v_2208_e]; exact tr_addX h_p1 h_2206 (by decide) (by decide)
        refine va_iald hx hb hK hP 0 0 rfl rfl (tr_in h_v_2208 (by decide) (by decide)) dX12_copies_21 ?_
        refine lv_topi (fun v_2209 v_2209_e => ?_)
        have g_v_2209 : v_2209 = ff (p1.toInt.toNat + x_2201.toInt.toNat) := v_2209_e.trans (congrArg ff (by show Int.toNat _ = _; omega))
        have gi_v_2209 := congrArg Int32.toInt g_v_2209
        refine va_iast hx hb hK hP hD hS 1 0 rfl rfl (tr_in h_v_2207 (by decide) (by decide)) dX12_copies_22 (fun H locs hP hD hS => ?_)
        obtain ⟨f_2210, f_2210_e, hP, hD⟩ : ∃ FX : Nat → Int32, FX = (upd f_2202 (v_2207 : Int32).toNatClampNeg v_2209) ∧ va_P D vwCl [(fa, .inl (g 0, 193, .inl ff)), (ta, .inl (g 0, 386, .inl FX))] H ∧ va_D A [(fa, .inl (g 0, 193, .inl ff)), (ta, .inl (g 0, 386, .inl FX))] := ⟨_, rfl, hP, hD⟩
        have hP : va_P D vwCl [(fa, .inl (g 0, 193, .inl ff)), (ta, .inl (g 0, 386, .inl f_2210))] H := hP
        have hD : va_D A [(fa, .inl (g 0, 193, .inl ff)), (ta, .inl (g 0, 386, .inl f_2210))] := hD
        obtain ⟨v_2211, v_2211_e⟩ : ∃ y : Int32, y = x_2201 + Int32.ofInt 1 := ⟨_, rfl⟩
        have h_v_2211 : 1 ≤ (v_2211 : Int32).toInt ∧ (v_2211 : Int32).toInt ≤ 193 := by rw [v_2211_e]; exact tr_add h_2206 (⟨by decide, by decide⟩ : 1 ≤ (Int32.ofInt 1 : Int32).toInt ∧ (Int32.ofInt 1 : Int32).toInt ≤ 1) (by decide) (by decide) (by decide) (by decide)
        have q_v_2211 : v_2211.toInt = x_2201.toInt + 1 := by rw [v_2211_e]; exact tr_addE h_2206 (⟨by decide, by decide⟩ : 1 ≤ (Int32.ofInt 1 : Int32).toInt ∧ (Int32.ofInt 1 : Int32).toInt ≤ 1) (by decide) (by decide)
        refine lv_iinc (v := v_2211) (lv' := [(4, .int v_2211), (0, .ref fa), (1, .int p1), (2, .ref ta), (3, .int p3)]) hx hb dX12_copies_23 hl (k := 0) rfl v_2211_e.symm (by decide) rfl (fun ls hl => ?_)
        refine lv_goto (tgt := 3) hx hb dX12_copies_26 (by decide) ?_
        exact ih_2203 v_2211 f_2210 H _ ls (tr_w h_v_2211 (by decide) (by decide)) (by rw [f_2210_e, show v_2211.toInt.toNat = _ + 1 from (by omega : _ = x_2201.toInt.toNat + 1)]; exact va_cpy_step hr2203_0 (by show Int.toNat _ = _; omega) g_v_2209) (by omega) (hP.sub [0, 1] rfl) (hD.sub [0, 1] (by decide) rfl) hS (lv_sub hl [0, 1, 2, 3, 4] rfl)
  exact lp_2203 194 0 tf s.heap _ ls (⟨by decide, by decide⟩ : 0 ≤ (0 : Int32).toInt ∧ (0 : Int32).toInt ≤ 193) (va_cpy_zero _ _ _ _) (by decide) (hP.sub [0, 1] rfl) (hD.sub [0, 1] (by decide) rfl) hS (lv_sub hl [0, 1, 2, 3, 4] rfl)
set_option maxHeartbeats 4000000 in
set_option maxRecDepth 100000 in
theorem c_X12_copiesU (l : Launch) (D : va_G) (g : Nat → ClassId) (sz : Nat) (fa : Nat) (p1 : Int32) (ta : Nat) (p3 : Int32) (ff : Nat → Int32) (tf : Nat → Int32) (h_p1 : 0 ≤ (p1 : Int32).toInt ∧ (p1 : Int32).toInt ≤ 0) (h_p3 : 0 ≤ (p3 : Int32).toInt ∧ (p3 : Int32).toInt ≤ 1351) : Met l yX12_copies (.code yX12_copies cX12_copies 5 none :: wsL_law) ({ frames := 0, cells := 0, slots := 0, locals := 0 }) (va_Pc [.ref fa, .int p1, .ref ta, .int p3] (fun U => U.heap.size = sz ∧ va_P D vwCl [(fa, .inl (g 0, 193, .inl ff)), (ta, .inl (g 0, 1544, .inl tf))] U.heap ∧ va_K D vwCl (TY g) U ∧ va_D (fun _ => True) [(fa, .inl (g 0, 193, .inl ff)), (ta, .inl (g 0, 1544, .inl tf))])) (va_Qv (fun (_ : Unit) => True) (fun _ t => ∃ otf : Nat → Int32, (otf = va_cpy ff tf (p1 : Int32).toInt.toNat (p3 : Int32).toInt.toNat 193) ∧ va_P D vwCl [(fa, .inl (g 0, 193, .inl ff)), (ta, .inl (g 0, 1544, .inl otf))] t.heap ∧ va_D (va_A [(fa, .inl (g 0, 193, .inl ff)), (ta, .inl (g 0, 1544, .inl tf))] sz) [(fa, .inl (g 0, 193, .inl ff)), (ta, .inl (g 0, 1544, .inl otf))]) (va_A [(fa, .inl (g 0, 193, .inl ff)), (ta, .inl (g 0, 1544, .inl tf))] sz)) 0 0 (va_A [(fa, .inl (g 0, 193, .inl ff)), (ta, .inl (g 0, 1544, .inl tf))] sz) := by
  refine Met.ofW (cc := cX12_copies) (maxL := 5) (ret := none) (by decide) rfl ?_
  intro p e s m args below meth c s₁ B hml hv
  obtain ⟨ha, hsz, hP, hK, hD0⟩ := hv
  have hx := B.exec
  have hb := B.bytes
  have hr := B.returns
  have hts0 := atoms_spec (ws := (.code yX12_copies cX12_copies 5 none :: wsL_law)) B.pre
  have hts : ∀ w ∈ wsL_law, w.before args s = true := fun w h => hts0 w (List.mem_cons_of_mem _ h)
  have hown : s.vm.findClass RX12 = some m.cls := findClass_of_methodNamed B.named
  have hlocks := B.notSynchronized
  subst hsz
  have hD := hD0.self (sz := s.heap.size)
  generalize hAe : va_A [(fa, .inl (g 0, 193, .inl ff)), (ta, .inl (g 0, 1544, .inl tf))] s.heap.size = A at hD ⊢
  have hA : ∀ q : Nat, s.heap.size ≤ q → A q := fun q h => by rw [← hAe]; exact Or.inr h
  have hS : va_S A s.heap s.heap [] := va_S.rf
  have hP : va_P D vwCl [(fa, .inl (g 0, 193, .inl ff)), (ta, .inl (g 0, 1544, .inl tf))] s.heap := hP
  refine W.eq (g2 := entryFrame m ([.ref fa, .int p1, .ref ta, .int p3] : List Value).toArray 5) (by rw [ha]) ?_
  have hl := lv_entry ([.ref fa, .int p1, .ref ta, .int p3]) (n := 5) (Nat.le_of_ble_eq_true rfl)
  rw [lg_entry_eq]
  generalize (lg_sl ([.ref fa, .int p1, .ref ta, .int p3]) ++ List.replicate (5 - (lg_sl ([.ref fa, .int p1, .ref ta, .int p3])).length) Slot.unset).toArray = ls at hl ⊢
  have hl : lv_has ls 5 [(0, .ref fa), (1, .int p1), (2, .ref ta), (3, .int p3)] := hl
  refine lv_iconst (v := 0) hx hb dX12_copies_0 (by decide) ?_
  refine lv_istore (lv' := [(4, .int 0), (0, .ref fa), (1, .int p1), (2, .ref ta), (3, .int p3)]) hx hb dX12_copies_1 hl (by decide) rfl (fun ls hl => ?_)
  have lp_2233 : ∀ (n_2233 : Nat) (x_2231 : Int32) (f_2232 : Nat → Int32) (H : Heap) (locs : List Loc) (ls : Array Slot), (0 ≤ (x_2231 : Int32).toInt ∧ (x_2231 : Int32).toInt ≤ 193) → (f_2232 = va_cpy ff tf p1.toInt.toNat p3.toInt.toNat x_2231.toInt.toNat) → (193 - x_2231.toInt < (n_2233 : Int)) → va_P D vwCl [(fa, .inl (g 0, 193, .inl ff)), (ta, .inl (g 0, 1544, .inl f_2232))] H → va_D A [(fa, .inl (g 0, 193, .inl ff)), (ta, .inl (g 0, 1544, .inl f_2232))] → va_S A s.heap H locs → lv_has ls 5 [(4, .int x_2231), (0, .ref fa), (1, .int p1), (2, .ref ta), (3, .int p3)] → W p l e (headSpec (.code yX12_copies cX12_copies 5 none :: wsL_law) ({ frames := 0, cells := 0, slots := 0, locals := 0 })).room s m args below meth c H locs 0 0 (MQ below (va_Qv (fun (_ : Unit) => True) (fun _ t => ∃ otf : Nat → Int32, (otf = va_cpy ff tf (p1 : Int32).toInt.toNat (p3 : Int32).toInt.toNat 193) ∧ va_P D vwCl [(fa, .inl (g 0, 193, .inl ff)), (ta, .inl (g 0, 1544, .inl otf))] t.heap ∧ va_D A [(fa, .inl (g 0, 193, .inl ff)), (ta, .inl (g 0, 1544, .inl otf))]) A) args s 0 0 A) (F0 m 3 ls []) := by
    intro n_2233
    induction n_2233 with
    | zero =>
      intro x_2231 f_2232 H locs ls h_x_2231 hr2233_0 hm_2233 hP hD hS hl
      exfalso; omega
    | succ n_2233 ih_2233 =>
      intro x_2231 f_2232 H locs ls h_x_2231 hr2233_0 hm_2233 hP hD hS hl
      refine lv_iload hx hb dX12_copies_3 (lv_at hl 0 rfl) ?_
      refine lv_sipush (v := 193) hx hb dX12_copies_5 (by decide) ?_
      refine lv_icmp_ge (tgt := 29) hx hb dX12_copies_8 (by decide) (fun c_2234 => ?_) (fun c_2234 => ?_)
      · skip
        have kk_193 := tk_193
        have c_2234_i := Int32.le_iff_toInt_le.mp c_2234
        have h_2235 : 193 ≤ (x_2231 : Int32).toInt ∧ (x_2231 : Int32).toInt ≤ 193 := nr_le_r (⟨by decide, by decide⟩ : 193 ≤ (193 : Int32).toInt ∧ (193 : Int32).toInt ≤ 193) h_x_2231 c_2234_i (by decide) (by decide)
        have hP9 := hP.sub (ws' := [(fa, .inl (g 0, 193, .inl ff)), (ta, .inl (g 0, 1544, .inl f_2232))]) [0, 1] rfl
        have hD9 := hD.sub (ws' := [(fa, .inl (g 0, 193, .inl ff)), (ta, .inl (g 0, 1544, .inl f_2232))]) [0, 1] (by decide) rfl
        exact W.vret hx hb hr (fun t ht hW => ⟨⟨(), rfl, trivial, f_2232, (hr2233_0.trans (congrArg (va_cpy ff tf p1.toInt.toNat p3.toInt.toNat) (by have z_193 := tk_193; omega))), by rw [ht]; exact hP9, hD9⟩, hS.F ht⟩) hS.2.2 dX12_copies_29
      · skip
        have kk_193 := tk_193
        have c_2234_i := Int32.lt_iff_toInt_lt.mp (Int32.not_le.mp c_2234)
        have h_2236 : 0 ≤ (x_2231 : Int32).toInt ∧ (x_2231 : Int32).toInt ≤ 192 := nr_lt_l h_x_2231 (⟨by decide, by decide⟩ : 193 ≤ (193 : Int32).toInt ∧ (193 : Int32).toInt ≤ 193) c_2234_i (by decide) (by decide)
        refine lv_aload_n hx hb dX12_copies_11 rfl (lv_at hl 3 rfl) ?_
        refine lv_iload_n hx hb dX12_copies_12 rfl (lv_at hl 4 rfl) ?_
        refine lv_iload hx hb dX12_copies_13 (lv_at hl 0 rfl) ?_
        refine lv_iadd hx hb dX12_copies_15 ?_
        refine lv_topi (fun v_2237 v_2237_e => ?_)
        have h_v_2237 : 0 ≤ (v_2237 : Int32).toInt ∧ (v_2237 : Int32).toInt ≤ 1543 := by rw [v_2237_e]; exact tr_add h_p3 h_2236 (by decide) (by decide) (by decide) (by decide)
        have q_v_2237 : v_2237.toInt = p3.toInt + x_2231.toInt := by rw [v_2237_e]; exact tr_addX h_p3 h_2236 (by decide) (by decide)
        refine lv_aload_n hx hb dX12_copies_16 rfl (lv_at hl 1 rfl) ?_
        refine lv_iload_n hx hb dX12_copies_17 rfl (lv_at hl 2 rfl) ?_
        refine lv_iload hx hb dX12_copies_18 (lv_at hl 0 rfl) ?_
        refine lv_iadd hx hb dX12_copies_20 ?_
        refine lv_topi (fun v_2238 v_2238_e => ?_)
        have h_v_2238 : 0 ≤ (v_2238 : Int32).toInt ∧ (v_2238 : Int32).toInt ≤ 192 := by rw [v_2238_e]; exact tr_add h_p1 h_2236 (by decide) (by decide) (by decide) (by decide)
        have q_v_2238 : v_2238.toInt = p1.toInt + x_2231.toInt := by rw [v_2238_e]; exact tr_addX h_p1 h_2236 (by decide) (by decide)
        refine va_iald hx hb hK hP 0 0 rfl rfl (tr_in h_v_2238 (by decide) (by decide)) dX12_copies_21 ?_
        refine lv_topi (fun v_2239 v_2239_e => ?_)
        have g_v_2239 : v_2239 = ff (p1.toInt.toNat + x_2231.toInt.toNat) := v_2239_e.trans (congrArg ff (by show Int.toNat _ = _; omega))
        have gi_v_2239 := congrArg Int32.toInt g_v_2239
        refine va_iast hx hb hK hP hD hS 1 0 rfl rfl (tr_in h_v_2237 (by decide) (by decide)) dX12_copies_22 (fun H locs hP hD hS => ?_)
        obtain ⟨f_2240, f_2240_e, hP, hD⟩ : ∃ FX : Nat → Int32, FX = (upd f_2232 (v_2237 : Int32).toNatClampNeg v_2239) ∧ va_P D vwCl [(fa, .inl (g 0, 193, .inl ff)), (ta, .inl (g 0, 1544, .inl FX))] H ∧ va_D A [(fa, .inl (g 0, 193, .inl ff)), (ta, .inl (g 0, 1544, .inl FX))] := ⟨_, rfl, hP, hD⟩
        have hP : va_P D vwCl [(fa, .inl (g 0, 193, .inl ff)), (ta, .inl (g 0, 1544, .inl f_2240))] H := hP
        have hD : va_D A [(fa, .inl (g 0, 193, .inl ff)), (ta, .inl (g 0, 1544, .inl f_2240))] := hD
        obtain ⟨v_2241, v_2241_e⟩ : ∃ y : Int32, y = x_2231 + Int32.ofInt 1 := ⟨_, rfl⟩
        have h_v_2241 : 1 ≤ (v_2241 : Int32).toInt ∧ (v_2241 : Int32).toInt ≤ 193 := by rw [v_2241_e]; exact tr_add h_2236 (⟨by decide, by decide⟩ : 1 ≤ (Int32.ofInt 1 : Int32).toInt ∧ (Int32.ofInt 1 : Int32).toInt ≤ 1) (by decide) (by decide) (by decide) (by decide)
        have q_v_2241 : v_2241.toInt = x_2231.toInt + 1 := by rw [v_2241_e]; exact tr_addE h_2236 (⟨by decide, by decide⟩ : 1 ≤ (Int32.ofInt 1 : Int32).toInt ∧ (Int32.ofInt 1 : Int32).toInt ≤ 1) (by decide) (by decide)
        refine lv_iinc (v := v_2241) (lv' := [(4, .int v_2241), (0, .ref fa), (1, .int p1), (2, .ref ta), (3, .int p3)]) hx hb dX12_copies_23 hl (k := 0) rfl v_2241_e.symm (by decide) rfl (fun ls hl => ?_)
        refine lv_goto (tgt := 3) hx hb dX12_copies_26 (by decide) ?_
        exact ih_2233 v_2241 f_2240 H _ ls (tr_w h_v_2241 (by decide) (by decide)) (by rw [f_2240_e, show v_2241.toInt.toNat = _ + 1 from (by omega : _ = x_2231.toInt.toNat + 1)]; exact va_cpy_step hr2233_0 (by show Int.toNat _ = _; omega) g_v_2239) (by omega) (hP.sub [0, 1] rfl) (hD.sub [0, 1] (by decide) rfl) hS (lv_sub hl [0, 1, 2, 3, 4] rfl)
  exact lp_2233 194 0 tf s.heap _ ls (⟨by decide, by decide⟩ : 0 ≤ (0 : Int32).toInt ∧ (0 : Int32).toInt ≤ 193) (va_cpy_zero _ _ _ _) (by decide) (hP.sub [0, 1] rfl) (hD.sub [0, 1] (by decide) rfl) hS (lv_sub hl [0, 1, 2, 3, 4] rfl)
set_option maxHeartbeats 4000000 in
set_option maxRecDepth 100000 in
theorem c_X12_copiesR (l : Launch) (D : va_G) (g : Nat → ClassId) (sz : Nat) (fa : Nat) (p1 : Int32) (ta : Nat) (p3 : Int32) (ff : Nat → Int32) (tf : Nat → Int32) (h_p1 : 0 ≤ (p1 : Int32).toInt ∧ (p1 : Int32).toInt ≤ 193) (h_p3 : 0 ≤ (p3 : Int32).toInt ∧ (p3 : Int32).toInt ≤ 0) : Met l yX12_copies (.code yX12_copies cX12_copies 5 none :: wsL_law) ({ frames := 0, cells := 0, slots := 0, locals := 0 }) (va_Pc [.ref fa, .int p1, .ref ta, .int p3] (fun U => U.heap.size = sz ∧ va_P D vwCl [(fa, .inl (g 0, 386, .inl ff)), (ta, .inl (g 0, 193, .inl tf))] U.heap ∧ va_K D vwCl (TY g) U ∧ va_D (fun _ => True) [(fa, .inl (g 0, 386, .inl ff)), (ta, .inl (g 0, 193, .inl tf))])) (va_Qv (fun (_ : Unit) => True) (fun _ t => ∃ otf : Nat → Int32, (otf = va_cpy ff tf (p1 : Int32).toInt.toNat (p3 : Int32).toInt.toNat 193) ∧ va_P D vwCl [(fa, .inl (g 0, 386, .inl ff)), (ta, .inl (g 0, 193, .inl otf))] t.heap ∧ va_D (va_A [(fa, .inl (g 0, 386, .inl ff)), (ta, .inl (g 0, 193, .inl tf))] sz) [(fa, .inl (g 0, 386, .inl ff)), (ta, .inl (g 0, 193, .inl otf))]) (va_A [(fa, .inl (g 0, 386, .inl ff)), (ta, .inl (g 0, 193, .inl tf))] sz)) 0 0 (va_A [(fa, .inl (g 0, 386, .inl ff)), (ta, .inl (g 0, 193, .inl tf))] sz) := by
  refine Met.ofW (cc := cX12_copies) (maxL := 5) (ret := none) (by decide) rfl ?_
  intro p e s m args below meth c s₁ B hml hv
  obtain ⟨ha, hsz, hP, hK, hD0⟩ := hv
  have hx := B.exec
  have hb := B.bytes
  have hr := B.returns
  have hts0 := atoms_spec (ws := (.code yX12_copies cX12_copies 5 none :: wsL_law)) B.pre
  have hts : ∀ w ∈ wsL_law, w.before args s = true := fun w h => hts0 w (List.mem_cons_of_mem _ h)
  have hown : s.vm.findClass RX12 = some m.cls := findClass_of_methodNamed B.named
  have hlocks := B.notSynchronized
  subst hsz
  have hD := hD0.self (sz := s.heap.size)
  generalize hAe : va_A [(fa, .inl (g 0, 386, .inl ff)), (ta, .inl (g 0, 193, .inl tf))] s.heap.size = A at hD ⊢
  have hA : ∀ q : Nat, s.heap.size ≤ q → A q := fun q h => by rw [← hAe]; exact Or.inr h
  have hS : va_S A s.heap s.heap [] := va_S.rf
  have hP : va_P D vwCl [(fa, .inl (g 0, 386, .inl ff)), (ta, .inl (g 0, 193, .inl tf))] s.heap := hP
  refine W.eq (g2 := entryFrame m ([.ref fa, .int p1, .ref ta, .int p3] : List Value).toArray 5) (by rw [ha]) ?_
  have hl := lv_entry ([.ref fa, .int p1, .ref ta, .int p3]) (n := 5) (Nat.le_of_ble_eq_true rfl)
  rw [lg_entry_eq]
  generalize (lg_sl ([.ref fa, .int p1, .ref ta, .int p3]) ++ List.replicate (5 - (lg_sl ([.ref fa, .int p1, .ref ta, .int p3])).length) Slot.unset).toArray = ls at hl ⊢
  have hl : lv_has ls 5 [(0, .ref fa), (1, .int p1), (2, .ref ta), (3, .int p3)] := hl
  refine lv_iconst (v := 0) hx hb dX12_copies_0 (by decide) ?_
  refine lv_istore (lv' := [(4, .int 0), (0, .ref fa), (1, .int p1), (2, .ref ta), (3, .int p3)]) hx hb dX12_copies_1 hl (by decide) rfl (fun ls hl => ?_)
  have lp_2263 : ∀ (n_2263 : Nat) (x_2261 : Int32) (f_2262 : Nat → Int32) (H : Heap) (locs : List Loc) (ls : Array Slot), (0 ≤ (x_2261 : Int32).toInt ∧ (x_2261 : Int32).toInt ≤ 193) → (f_2262 = va_cpy ff tf p1.toInt.toNat p3.toInt.toNat x_2261.toInt.toNat) → (193 - x_2261.toInt < (n_2263 : Int)) → va_P D vwCl [(fa, .inl (g 0, 386, .inl ff)), (ta, .inl (g 0, 193, .inl f_2262))] H → va_D A [(fa, .inl (g 0, 386, .inl ff)), (ta, .inl (g 0, 193, .inl f_2262))] → va_S A s.heap H locs → lv_has ls 5 [(4, .int x_2261), (0, .ref fa), (1, .int p1), (2, .ref ta), (3, .int p3)] → W p l e (headSpec (.code yX12_copies cX12_copies 5 none :: wsL_law) ({ frames := 0, cells := 0, slots := 0, locals := 0 })).room s m args below meth c H locs 0 0 (MQ below (va_Qv (fun (_ : Unit) => True) (fun _ t => ∃ otf : Nat → Int32, (otf = va_cpy ff tf (p1 : Int32).toInt.toNat (p3 : Int32).toInt.toNat 193) ∧ va_P D vwCl [(fa, .inl (g 0, 386, .inl ff)), (ta, .inl (g 0, 193, .inl otf))] t.heap ∧ va_D A [(fa, .inl (g 0, 386, .inl ff)), (ta, .inl (g 0, 193, .inl otf))]) A) args s 0 0 A) (F0 m 3 ls []) := by
    intro n_2263
    induction n_2263 with
    | zero =>
      intro x_2261 f_2262 H locs ls h_x_2261 hr2263_0 hm_2263 hP hD hS hl
      exfalso; omega
    | succ n_2263 ih_2263 =>
      intro x_2261 f_2262 H locs ls h_x_2261 hr2263_0 hm_2263 hP hD hS hl
      refine lv_iload hx hb dX12_copies_3 (lv_at hl 0 rfl) ?_
      refine lv_sipush (v := 193) hx hb dX12_copies_5 (by decide) ?_
      refine lv_icmp_ge (tgt := 29) hx hb dX12_copies_8 (by decide) (fun c_2264 => ?_) (fun c_2264 => ?_)
      · skip
        have kk_193 := tk_193
        have c_2264_i := Int32.le_iff_toInt_le.mp c_2264
        have h_2265 : 193 ≤ (x_2261 : Int32).toInt ∧ (x_2261 : Int32).toInt ≤ 193 := nr_le_r (⟨by decide, by decide⟩ : 193 ≤ (193 : Int32).toInt ∧ (193 : Int32).toInt ≤ 193) h_x_2261 c_2264_i (by decide) (by decide)
        have hP9 := hP.sub (ws' := [(fa, .inl (g 0, 386, .inl ff)), (ta, .inl (g 0, 193, .inl f_2262))]) [0, 1] rfl
        have hD9 := hD.sub (ws' := [(fa, .inl (g 0, 386, .inl ff)), (ta, .inl (g 0, 193, .inl f_2262))]) [0, 1] (by decide) rfl
        exact W.vret hx hb hr (fun t ht hW => ⟨⟨(), rfl, trivial, f_2262, (hr2263_0.trans (congrArg (va_cpy ff tf p1.toInt.toNat p3.toInt.toNat) (by have z_193 := tk_193; omega))), by rw [ht]; exact hP9, hD9⟩, hS.F ht⟩) hS.2.2 dX12_copies_29
      · skip
        have kk_193 := tk_193
        have c_2264_i := Int32.lt_iff_toInt_lt.mp (Int32.not_le.mp c_2264)
        have h_2266 : 0 ≤ (x_2261 : Int32).toInt ∧ (x_2261 : Int32).toInt ≤ 192 := nr_lt_l h_x_2261 (⟨by decide, by decide⟩ : 193 ≤ (193 : Int32).toInt ∧ (193 : Int32).toInt ≤ 193) c_2264_i (by decide) (by decide)
        refine lv_aload_n hx hb dX12_copies_11 rfl (lv_at hl 3 rfl) ?_
        refine lv_iload_n hx hb dX12_copies_12 rfl (lv_at hl 4 rfl) ?_
        refine lv_iload hx hb dX12_copies_13 (lv_at hl 0 rfl) ?_
        refine lv_iadd hx hb dX12_copies_15 ?_
        refine lv_topi (fun v_2267 v_2267_e => ?_)
        have h_v_2267 : 0 ≤ (v_2267 : Int32).toInt ∧ (v_2267 : Int32).toInt ≤ 192 := by rw [v_2267_e]; exact tr_add h_p3 h_2266 (by decide) (by decide) (by decide) (by decide)
        have q_v_2267 : v_2267.toInt = p3.toInt + x_2261.toInt := by rw [v_2267_e]; exact tr_addX h_p3 h_2266 (by decide) (by decide)
        refine lv_aload_n hx hb dX12_copies_16 rfl (lv_at hl 1 rfl) ?_
        refine lv_iload_n hx hb dX12_copies_17 rfl (lv_at hl 2 rfl) ?_
        refine lv_iload hx hb dX12_copies_18 (lv_at hl 0 rfl) ?_
        refine lv_iadd hx hb dX12_copies_20 ?_
        refine lv_topi (fun v_2268 v_2268_e => ?_)
        have h_v_2268 : 0 ≤ (v_2268 : Int32).toInt ∧ (v_2268 : Int32).toInt ≤ 385 := by rw [v_2268_e]; exact tr_add h_p1 h_2266 (by decide) (by decide) (by decide) (by decide)
        have q_v_2268 : v_2268.toInt = p1.toInt + x_2261.toInt := by rw [v_2268_e]; exact tr_addX h_p1 h_2266 (by decide) (by decide)
        refine va_iald hx hb hK hP 0 0 rfl rfl (tr_in h_v_2268 (by decide) (by decide)) dX12_copies_21 ?_
        refine lv_topi (fun v_2269 v_2269_e => ?_)
        have g_v_2269 : v_2269 = ff (p1.toInt.toNat + x_2261.toInt.toNat) := v_2269_e.trans (congrArg ff (by show Int.toNat _ = _; omega))
        have gi_v_2269 := congrArg Int32.toInt g_v_2269
        refine va_iast hx hb hK hP hD hS 1 0 rfl rfl (tr_in h_v_2267 (by decide) (by decide)) dX12_copies_22 (fun H locs hP hD hS => ?_)
        obtain ⟨f_2270, f_2270_e, hP, hD⟩ : ∃ FX : Nat → Int32, FX = (upd f_2262 (v_2267 : Int32).toNatClampNeg v_2269) ∧ va_P D vwCl [(fa, .inl (g 0, 386, .inl ff)), (ta, .inl (g 0, 193, .inl FX))] H ∧ va_D A [(fa, .inl (g 0, 386, .inl ff)), (ta, .inl (g 0, 193, .inl FX))] := ⟨_, rfl, hP, hD⟩
        have hP : va_P D vwCl [(fa, .inl (g 0, 386, .inl ff)), (ta, .inl (g 0, 193, .inl f_2270))] H := hP
        have hD : va_D A [(fa, .inl (g 0, 386, .inl ff)), (ta, .inl (g 0, 193, .inl f_2270))] := hD
        obtain ⟨v_2271, v_2271_e⟩ : ∃ y : Int32, y = x_2261 + Int32.ofInt 1 := ⟨_, rfl⟩
        have h_v_2271 : 1 ≤ (v_2271 : Int32).toInt ∧ (v_2271 : Int32).toInt ≤ 193 := by rw [v_2271_e]; exact tr_add h_2266 (⟨by decide, by decide⟩ : 1 ≤ (Int32.ofInt 1 : Int32).toInt ∧ (Int32.ofInt 1 : Int32).toInt ≤ 1) (by decide) (by decide) (by decide) (by decide)
        have q_v_2271 : v_2271.toInt = x_2261.toInt + 1 := by rw [v_2271_e]; exact tr_addE h_2266 (⟨by decide, by decide⟩ : 1 ≤ (Int32.ofInt 1 : Int32).toInt ∧ (Int32.ofInt 1 : Int32).toInt ≤ 1) (by decide) (by decide)
        refine lv_iinc (v := v_2271) (lv' := [(4, .int v_2271), (0, .ref fa), (1, .int p1), (2, .ref ta), (3, .int p3)]) hx hb dX12_copies_23 hl (k := 0) rfl v_2271_e.symm (by decide) rfl (fun ls hl => ?_)
        refine lv_goto (tgt := 3) hx hb dX12_copies_26 (by decide) ?_
        exact ih_2263 v_2271 f_2270 H _ ls (tr_w h_v_2271 (by decide) (by decide)) (by rw [f_2270_e, show v_2271.toInt.toNat = _ + 1 from (by omega : _ = x_2261.toInt.toNat + 1)]; exact va_cpy_step hr2263_0 (by show Int.toNat _ = _; omega) g_v_2269) (by omega) (hP.sub [0, 1] rfl) (hD.sub [0, 1] (by decide) rfl) hS (lv_sub hl [0, 1, 2, 3, 4] rfl)
  exact lp_2263 194 0 tf s.heap _ ls (⟨by decide, by decide⟩ : 0 ≤ (0 : Int32).toInt ∧ (0 : Int32).toInt ≤ 193) (va_cpy_zero _ _ _ _) (by decide) (hP.sub [0, 1] rfl) (hD.sub [0, 1] (by decide) rfl) hS (lv_sub hl [0, 1, 2, 3, 4] rfl)
set_option maxHeartbeats 4000000 in
set_option maxRecDepth 100000 in
theorem c_X12_copiesB (l : Launch) (D : va_G) (g : Nat → ClassId) (sz : Nat) (fa : Nat) (p1 : Int32) (ta : Nat) (p3 : Int32) (ff : Nat → Int32) (tf : Nat → Int32) (h_p1 : 0 ≤ (p1 : Int32).toInt ∧ (p1 : Int32).toInt ≤ 1351) (h_p3 : 0 ≤ (p3 : Int32).toInt ∧ (p3 : Int32).toInt ≤ 0) : Met l yX12_copies (.code yX12_copies cX12_copies 5 none :: wsL_law) ({ frames := 0, cells := 0, slots := 0, locals := 0 }) (va_Pc [.ref fa, .int p1, .ref ta, .int p3] (fun U => U.heap.size = sz ∧ va_P D vwCl [(fa, .inl (g 0, 1544, .inl ff)), (ta, .inl (g 0, 193, .inl tf))] U.heap ∧ va_K D vwCl (TY g) U ∧ va_D (fun _ => True) [(fa, .inl (g 0, 1544, .inl ff)), (ta, .inl (g 0, 193, .inl tf))])) (va_Qv (fun (_ : Unit) => True) (fun _ t => ∃ otf : Nat → Int32, (otf = va_cpy ff tf (p1 : Int32).toInt.toNat (p3 : Int32).toInt.toNat 193) ∧ va_P D vwCl [(fa, .inl (g 0, 1544, .inl ff)), (ta, .inl (g 0, 193, .inl otf))] t.heap ∧ va_D (va_A [(fa, .inl (g 0, 1544, .inl ff)), (ta, .inl (g 0, 193, .inl tf))] sz) [(fa, .inl (g 0, 1544, .inl ff)), (ta, .inl (g 0, 193, .inl otf))]) (va_A [(fa, .inl (g 0, 1544, .inl ff)), (ta, .inl (g 0, 193, .inl tf))] sz)) 0 0 (va_A [(fa, .inl (g 0, 1544, .inl ff)), (ta, .inl (g 0, 193, .inl tf))] sz) := by
  refine Met.ofW (cc := cX12_copies) (maxL := 5) (ret := none) (by decide) rfl ?_
  intro p e s m args below meth c s₁ B hml hv
  obtain ⟨ha, hsz, hP, hK, hD0⟩ := hv
  have hx := B.exec
  have hb := B.bytes
  have hr := B.returns
  have hts0 := atoms_spec (ws := (.code yX12_copies cX12_copies 5 none :: wsL_law)) B.pre
  have hts : ∀ w ∈ wsL_law, w.before args s = true := fun w h => hts0 w (List.mem_cons_of_mem _ h)
  have hown : s.vm.findClass RX12 = some m.cls := findClass_of_methodNamed B.named
  have hlocks := B.notSynchronized
  subst hsz
  have hD := hD0.self (sz := s.heap.size)
  generalize hAe : va_A [(fa, .inl (g 0, 1544, .inl ff)), (ta, .inl (g 0, 193, .inl tf))] s.heap.size = A at hD ⊢
  have hA : ∀ q : Nat, s.heap.size ≤ q → A q := fun q h => by rw [← hAe]; exact Or.inr h
  have hS : va_S A s.heap s.heap [] := va_S.rf
  have hP : va_P D vwCl [(fa, .inl (g 0, 1544, .inl ff)), (ta, .inl (g 0, 193, .inl tf))] s.heap := hP
  refine W.eq (g2 := entryFrame m ([.ref fa, .int p1, .ref ta, .int p3] : List Value).toArray 5) (by rw [ha]) ?_
  have hl := lv_entry ([.ref fa, .int p1, .ref ta, .int p3]) (n := 5) (Nat.le_of_ble_eq_true rfl)
  rw [lg_entry_eq]
  generalize (lg_sl ([.ref fa, .int p1, .ref ta, .int p3]) ++ List.replicate (5 - (lg_sl ([.ref fa, .int p1, .ref ta, .int p3])).length) Slot.unset).toArray = ls at hl ⊢
  have hl : lv_has ls 5 [(0, .ref fa), (1, .int p1), (2, .ref ta), (3, .int p3)] := hl
  refine lv_iconst (v := 0) hx hb dX12_copies_0 (by decide) ?_
  refine lv_istore (lv' := [(4, .int 0), (0, .ref fa), (1, .int p1), (2, .ref ta), (3, .int p3)]) hx hb dX12_copies_1 hl (by decide) rfl (fun ls hl => ?_)
  have lp_2293 : ∀ (n_2293 : Nat) (x_2291 : Int32) (f_2292 : Nat → Int32) (H : Heap) (locs : List Loc) (ls : Array Slot), (0 ≤ (x_2291 : Int32).toInt ∧ (x_2291 : Int32).toInt ≤ 193) → (f_2292 = va_cpy ff tf p1.toInt.toNat p3.toInt.toNat x_2291.toInt.toNat) → (193 - x_2291.toInt < (n_2293 : Int)) → va_P D vwCl [(fa, .inl (g 0, 1544, .inl ff)), (ta, .inl (g 0, 193, .inl f_2292))] H → va_D A [(fa, .inl (g 0, 1544, .inl ff)), (ta, .inl (g 0, 193, .inl f_2292))] → va_S A s.heap H locs → lv_has ls 5 [(4, .int x_2291), (0, .ref fa), (1, .int p1), (2, .ref ta), (3, .int p3)] → W p l e (headSpec (.code yX12_copies cX12_copies 5 none :: wsL_law) ({ frames := 0, cells := 0, slots := 0, locals := 0 })).room s m args below meth c H locs 0 0 (MQ below (va_Qv (fun (_ : Unit) => True) (fun _ t => ∃ otf : Nat → Int32, (otf = va_cpy ff tf (p1 : Int32).toInt.toNat (p3 : Int32).toInt.toNat 193) ∧ va_P D vwCl [(fa, .inl (g 0, 1544, .inl ff)), (ta, .inl (g 0, 193, .inl otf))] t.heap ∧ va_D A [(fa, .inl (g 0, 1544, .inl ff)), (ta, .inl (g 0, 193, .inl otf))]) A) args s 0 0 A) (F0 m 3 ls []) := by
    intro n_2293
    induction n_2293 with
    | zero =>
      intro x_2291 f_2292 H locs ls h_x_2291 hr2293_0 hm_2293 hP hD hS hl
      exfalso; omega
    | succ n_2293 ih_2293 =>
      intro x_2291 f_2292 H locs ls h_x_2291 hr2293_0 hm_2293 hP hD hS hl
      refine lv_iload hx hb dX12_copies_3 (lv_at hl 0 rfl) ?_
      refine lv_sipush (v := 193) hx hb dX12_copies_5 (by decide) ?_
      refine lv_icmp_ge (tgt := 29) hx hb dX12_copies_8 (by decide) (fun c_2294 => ?_) (fun c_2294 => ?_)
      · skip
        have kk_193 := tk_193
        have c_2294_i := Int32.le_iff_toInt_le.mp c_2294
        have h_2295 : 193 ≤ (x_2291 : Int32).toInt ∧ (x_2291 : Int32).toInt ≤ 193 := nr_le_r (⟨by decide, by decide⟩ : 193 ≤ (193 : Int32).toInt ∧ (193 : Int32).toInt ≤ 193) h_x_2291 c_2294_i (by decide) (by decide)
        have hP9 := hP.sub (ws' := [(fa, .inl (g 0, 1544, .inl ff)), (ta, .inl (g 0, 193, .inl f_2292))]) [0, 1] rfl
        have hD9 := hD.sub (ws' := [(fa, .inl (g 0, 1544, .inl ff)), (ta, .inl (g 0, 193, .inl f_2292))]) [0, 1] (by decide) rfl
        exact W.vret hx hb hr (fun t ht hW => ⟨⟨(), rfl, trivial, f_2292, (hr2293_0.trans (congrArg (va_cpy ff tf p1.toInt.toNat p3.toInt.toNat) (by have z_193 := tk_193; omega))), by rw [ht]; exact hP9, hD9⟩, hS.F ht⟩) hS.2.2 dX12_copies_29
      · skip
        have kk_193 := tk_193
        have c_2294_i := Int32.lt_iff_toInt_lt.mp (Int32.not_le.mp c_2294)
        have h_2296 : 0 ≤ (x_2291 : Int32).toInt ∧ (x_2291 : Int32).toInt ≤ 192 := nr_lt_l h_x_2291 (⟨by decide, by decide⟩ : 193 ≤ (193 : Int32).toInt ∧ (193 : Int32).toInt ≤ 193) c_2294_i (by decide) (by decide)
        refine lv_aload_n hx hb dX12_copies_11 rfl (lv_at hl 3 rfl) ?_
        refine lv_iload_n hx hb dX12_copies_12 rfl (lv_at hl 4 rfl) ?_
        refine lv_iload hx hb dX12_copies_13 (lv_at hl 0 rfl) ?_
        refine lv_iadd hx hb dX12_copies_15 ?_
        refine lv_topi (fun v_2297 v_2297_e => ?_)
        have h_v_2297 : 0 ≤ (v_2297 : Int32).toInt ∧ (v_2297 : Int32).toInt ≤ 192 := by rw [v_2297_e]; exact tr_add h_p3 h_2296 (by decide) (by decide) (by decide) (by decide)
        have q_v_2297 : v_2297.toInt = p3.toInt + x_2291.toInt := by rw [v_2297_e]; exact tr_addX h_p3 h_2296 (by decide) (by decide)
        refine lv_aload_n hx hb dX12_copies_16 rfl (lv_at hl 1 rfl) ?_
        refine lv_iload_n hx hb dX12_copies_17 rfl (lv_at hl 2 rfl) ?_
        refine lv_iload hx hb dX12_copies_18 (lv_at hl 0 rfl) ?_
        refine lv_iadd hx hb dX12_copies_20 ?_
        refine lv_topi (fun v_2298 v_2298_e => ?_)
        have h_v_2298 : 0 ≤ (v_2298 : Int32).toInt ∧ (v_2298 : Int32).toInt ≤ 1543 := by rw [v_2298_e]; exact tr_add h_p1 h_2296 (by decide) (by decide) (by decide) (by decide)
        have q_v_2298 : v_2298.toInt = p1.toInt + x_2291.toInt := by rw [v_2298_e]; exact tr_addX h_p1 h_2296 (by decide) (by decide)
        refine va_iald hx hb hK hP 0 0 rfl rfl (tr_in h_v_2298 (by decide) (by decide)) dX12_copies_21 ?_
        refine lv_topi (fun v_2299 v_2299_e => ?_)
        have g_v_2299 : v_2299 = ff (p1.toInt.toNat + x_2291.toInt.toNat) := v_2299_e.trans (congrArg ff (by show Int.toNat _ = _; omega))
        have gi_v_2299 := congrArg Int32.toInt g_v_2299
        refine va_iast hx hb hK hP hD hS 1 0 rfl rfl (tr_in h_v_2297 (by decide) (by decide)) dX12_copies_22 (fun H locs hP hD hS => ?_)
        obtain ⟨f_2300, f_2300_e, hP, hD⟩ : ∃ FX : Nat → Int32, FX = (upd f_2292 (v_2297 : Int32).toNatClampNeg v_2299) ∧ va_P D vwCl [(fa, .inl (g 0, 1544, .inl ff)), (ta, .inl (g 0, 193, .inl FX))] H ∧ va_D A [(fa, .inl (g 0, 1544, .inl ff)), (ta, .inl (g 0, 193, .inl FX))] := ⟨_, rfl, hP, hD⟩
        have hP : va_P D vwCl [(fa, .inl (g 0, 1544, .inl ff)), (ta, .inl (g 0, 193, .inl f_2300))] H := hP
        have hD : va_D A [(fa, .inl (g 0, 1544, .inl ff)), (ta, .inl (g 0, 193, .inl f_2300))] := hD
        obtain ⟨v_2301, v_2301_e⟩ : ∃ y : Int32, y = x_2291 + Int32.ofInt 1 := ⟨_, rfl⟩
        have h_v_2301 : 1 ≤ (v_2301 : Int32).toInt ∧ (v_2301 : Int32).toInt ≤ 193 := by rw [v_2301_e]; exact tr_add h_2296 (⟨by decide, by decide⟩ : 1 ≤ (Int32.ofInt 1 : Int32).toInt ∧ (Int32.ofInt 1 : Int32).toInt ≤ 1) (by decide) (by decide) (by decide) (by decide)
        have q_v_2301 : v_2301.toInt = x_2291.toInt + 1 := by rw [v_2301_e]; exact tr_addE h_2296 (⟨by decide, by decide⟩ : 1 ≤ (Int32.ofInt 1 : Int32).toInt ∧ (Int32.ofInt 1 : Int32).toInt ≤ 1) (by decide) (by decide)
        refine lv_iinc (v := v_2301) (lv' := [(4, .int v_2301), (0, .ref fa), (1, .int p1), (2, .ref ta), (3, .int p3)]) hx hb dX12_copies_23 hl (k := 0) rfl v_2301_e.symm (by decide) rfl (fun ls hl => ?_)
        refine lv_goto (tgt := 3) hx hb dX12_copies_26 (by decide) ?_
        exact ih_2293 v_2301 f_2300 H _ ls (tr_w h_v_2301 (by decide) (by decide)) (by rw [f_2300_e, show v_2301.toInt.toNat = _ + 1 from (by omega : _ = x_2291.toInt.toNat + 1)]; exact va_cpy_step hr2293_0 (by show Int.toNat _ = _; omega) g_v_2299) (by omega) (hP.sub [0, 1] rfl) (hD.sub [0, 1] (by decide) rfl) hS (lv_sub hl [0, 1, 2, 3, 4] rfl)
  exact lp_2293 194 0 tf s.heap _ ls (⟨by decide, by decide⟩ : 0 ≤ (0 : Int32).toInt ∧ (0 : Int32).toInt ≤ 193) (va_cpy_zero _ _ _ _) (by decide) (hP.sub [0, 1] rfl) (hD.sub [0, 1] (by decide) rfl) hS (lv_sub hl [0, 1, 2, 3, 4] rfl)
