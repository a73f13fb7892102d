theorem qw_333 : Cond.fieldLink RX2 18 "ChanceRings$Net" "name" "[I" ∈ wsL_law := tseg_1 (by decide +kernel) (List.mem_of_getElem? (i := 76) (by decide +kernel))
theorem dX2_addNode_0 : decode cX2_addNode 0 = .ok (.aload_n 0, 1) := by decide +kernel
theorem dX2_addNode_1 : decode cX2_addNode 1 = .ok (.getfield 33, 3) := by decide +kernel
theorem dX2_addNode_4 : decode cX2_addNode 4 = .ok (.bipush 12, 2) := by decide +kernel
theorem dX2_addNode_6 : decode cX2_addNode 6 = .ok (.if_icmp .ge 63, 3) := by decide +kernel
theorem dX2_addNode_9 : decode cX2_addNode 9 = .ok (.aload_n 0, 1) := by decide +kernel
theorem dX2_addNode_10 : decode cX2_addNode 10 = .ok (.getfield 9, 3) := by decide +kernel
theorem dX2_addNode_13 : decode cX2_addNode 13 = .ok (.aload_n 0, 1) := by decide +kernel
theorem dX2_addNode_14 : decode cX2_addNode 14 = .ok (.getfield 33, 3) := by decide +kernel
theorem dX2_addNode_17 : decode cX2_addNode 17 = .ok (.iload_n 1, 1) := by decide +kernel
theorem dX2_addNode_18 : decode cX2_addNode 18 = .ok (.iastore, 1) := by decide +kernel
theorem dX2_addNode_19 : decode cX2_addNode 19 = .ok (.aload_n 0, 1) := by decide +kernel
theorem dX2_addNode_20 : decode cX2_addNode 20 = .ok (.getfield 18, 3) := by decide +kernel
theorem dX2_addNode_23 : decode cX2_addNode 23 = .ok (.aload_n 0, 1) := by decide +kernel
theorem dX2_addNode_24 : decode cX2_addNode 24 = .ok (.getfield 33, 3) := by decide +kernel
theorem dX2_addNode_27 : decode cX2_addNode 27 = .ok (.iload_n 2, 1) := by decide +kernel
theorem dX2_addNode_28 : decode cX2_addNode 28 = .ok (.iastore, 1) := by decide +kernel
theorem dX2_addNode_29 : decode cX2_addNode 29 = .ok (.aload_n 0, 1) := by decide +kernel
theorem dX2_addNode_30 : decode cX2_addNode 30 = .ok (.getfield 15, 3) := by decide +kernel
theorem dX2_addNode_33 : decode cX2_addNode 33 = .ok (.aload_n 0, 1) := by decide +kernel
theorem dX2_addNode_34 : decode cX2_addNode 34 = .ok (.getfield 33, 3) := by decide +kernel
theorem dX2_addNode_37 : decode cX2_addNode 37 = .ok (.iload_n 3, 1) := by decide +kernel
theorem dX2_addNode_38 : decode cX2_addNode 38 = .ok (.iastore, 1) := by decide +kernel
theorem dX2_addNode_39 : decode cX2_addNode 39 = .ok (.aload_n 0, 1) := by decide +kernel
theorem dX2_addNode_40 : decode cX2_addNode 40 = .ok (.getfield 21, 3) := by decide +kernel
theorem dX2_addNode_43 : decode cX2_addNode 43 = .ok (.aload_n 0, 1) := by decide +kernel
theorem dX2_addNode_44 : decode cX2_addNode 44 = .ok (.getfield 33, 3) := by decide +kernel
theorem dX2_addNode_47 : decode cX2_addNode 47 = .ok (.iconst 0, 1) := by decide +kernel
theorem dX2_addNode_48 : decode cX2_addNode 48 = .ok (.iastore, 1) := by decide +kernel
theorem dX2_addNode_49 : decode cX2_addNode 49 = .ok (.aload_n 0, 1) := by decide +kernel
theorem dX2_addNode_50 : decode cX2_addNode 50 = .ok (.getfield 24, 3) := by decide +kernel
theorem dX2_addNode_53 : decode cX2_addNode 53 = .ok (.aload_n 0, 1) := by decide +kernel
theorem dX2_addNode_54 : decode cX2_addNode 54 = .ok (.getfield 33, 3) := by decide +kernel
theorem dX2_addNode_57 : decode cX2_addNode 57 = .ok (.iconst (-1), 1) := by decide +kernel
theorem dX2_addNode_58 : decode cX2_addNode 58 = .ok (.iastore, 1) := by decide +kernel
theorem dX2_addNode_59 : decode cX2_addNode 59 = .ok (.aload_n 0, 1) := by decide +kernel
theorem dX2_addNode_60 : decode cX2_addNode 60 = .ok (.dup, 1) := by decide +kernel
theorem dX2_addNode_61 : decode cX2_addNode 61 = .ok (.getfield 33, 3) := by decide +kernel
theorem dX2_addNode_64 : decode cX2_addNode 64 = .ok (.iconst 1, 1) := by decide +kernel
theorem dX2_addNode_65 : decode cX2_addNode 65 = .ok (.iadd, 1) := by decide +kernel
theorem dX2_addNode_66 : decode cX2_addNode 66 = .ok (.putfield 33, 3) := by decide +kernel
theorem dX2_addNode_69 : decode cX2_addNode 69 = .ok (.return_, 1) := by decide +kernel
theorem dX2_addWay_0 : decode cX2_addWay 0 = .ok (.aload_n 0, 1) := by decide +kernel
theorem dX2_addWay_1 : decode cX2_addWay 1 = .ok (.getfield 21, 3) := by decide +kernel
theorem dX2_addWay_4 : decode cX2_addWay 4 = .ok (.iload_n 1, 1) := by decide +kernel
theorem dX2_addWay_5 : decode cX2_addWay 5 = .ok (.iaload, 1) := by decide +kernel
theorem dX2_addWay_6 : decode cX2_addWay 6 = .ok (.iconst 3, 1) := by decide +kernel
theorem dX2_addWay_7 : decode cX2_addWay 7 = .ok (.if_icmp .ge 45, 3) := by decide +kernel
theorem dX2_addWay_10 : decode cX2_addWay 10 = .ok (.aload_n 0, 1) := by decide +kernel
theorem dX2_addWay_11 : decode cX2_addWay 11 = .ok (.getfield 27, 3) := by decide +kernel
theorem dX2_addWay_14 : decode cX2_addWay 14 = .ok (.iload_n 1, 1) := by decide +kernel
theorem dX2_addWay_15 : decode cX2_addWay 15 = .ok (.iconst 3, 1) := by decide +kernel
theorem dX2_addWay_16 : decode cX2_addWay 16 = .ok (.imul, 1) := by decide +kernel
theorem dX2_addWay_17 : decode cX2_addWay 17 = .ok (.aload_n 0, 1) := by decide +kernel
theorem dX2_addWay_18 : decode cX2_addWay 18 = .ok (.getfield 21, 3) := by decide +kernel
theorem dX2_addWay_21 : decode cX2_addWay 21 = .ok (.iload_n 1, 1) := by decide +kernel
theorem dX2_addWay_22 : decode cX2_addWay 22 = .ok (.iaload, 1) := by decide +kernel
theorem dX2_addWay_23 : decode cX2_addWay 23 = .ok (.iadd, 1) := by decide +kernel
theorem dX2_addWay_24 : decode cX2_addWay 24 = .ok (.iload_n 2, 1) := by decide +kernel
theorem dX2_addWay_25 : decode cX2_addWay 25 = .ok (.iastore, 1) := by decide +kernel
theorem dX2_addWay_26 : decode cX2_addWay 26 = .ok (.aload_n 0, 1) := by decide +kernel
theorem dX2_addWay_27 : decode cX2_addWay 27 = .ok (.getfield 30, 3) := by decide +kernel
theorem dX2_addWay_30 : decode cX2_addWay 30 = .ok (.iload_n 1, 1) := by decide +kernel
theorem dX2_addWay_31 : decode cX2_addWay 31 = .ok (.iconst 3, 1) := by decide +kernel
theorem dX2_addWay_32 : decode cX2_addWay 32 = .ok (.imul, 1) := by decide +kernel
theorem dX2_addWay_33 : decode cX2_addWay 33 = .ok (.aload_n 0, 1) := by decide +kernel
theorem dX2_addWay_34 : decode cX2_addWay 34 = .ok (.getfield 21, 3) := by decide +kernel
theorem dX2_addWay_37 : decode cX2_addWay 37 = .ok (.iload_n 1, 1) := by decide +kernel
theorem dX2_addWay_38 : decode cX2_addWay 38 = .ok (.iaload, 1) := by decide +kernel
theorem dX2_addWay_39 : decode cX2_addWay 39 = .ok (.iadd, 1) := by decide +kernel
theorem dX2_addWay_40 : decode cX2_addWay 40 = .ok (.iload_n 3, 1) := by decide +kernel
theorem dX2_addWay_41 : decode cX2_addWay 41 = .ok (.iastore, 1) := by decide +kernel
theorem dX2_addWay_42 : decode cX2_addWay 42 = .ok (.aload_n 0, 1) := by decide +kernel
theorem dX2_addWay_43 : decode cX2_addWay 43 = .ok (.getfield 21, 3) := by decide +kernel
theorem dX2_addWay_46 : decode cX2_addWay 46 = .ok (.iload_n 1, 1) := by decide +kernel
theorem dX2_addWay_47 : decode cX2_addWay 47 = .ok (.dup2, 1) := by decide +kernel
theorem dX2_addWay_48 : decode cX2_addWay 48 = .ok (.iaload, 1) := by decide +kernel
theorem dX2_addWay_49 : decode cX2_addWay 49 = .ok (.iconst 1, 1) := by decide +kernel
theorem dX2_addWay_50 : decode cX2_addWay 50 = .ok (.iadd, 1) := by decide +kernel
theorem dX2_addWay_51 : decode cX2_addWay 51 = .ok (.iastore, 1) := by decide +kernel
theorem dX2_addWay_52 : decode cX2_addWay 52 = .ok (.return_, 1) := by decide +kernel
theorem dX2_countOf_0 : decode cX2_countOf 0 = .ok (.iconst 0, 1) := by decide +kernel
theorem dX2_countOf_1 : decode cX2_countOf 1 = .ok (.istore_n 2, 1) := by decide +kernel
theorem dX2_countOf_2 : decode cX2_countOf 2 = .ok (.iconst 0, 1) := by decide +kernel
theorem dX2_countOf_3 : decode cX2_countOf 3 = .ok (.istore_n 3, 1) := by decide +kernel
theorem dX2_countOf_4 : decode cX2_countOf 4 = .ok (.iload_n 3, 1) := by decide +kernel
theorem dX2_countOf_5 : decode cX2_countOf 5 = .ok (.aload_n 0, 1) := by decide +kernel
theorem dX2_countOf_6 : decode cX2_countOf 6 = .ok (.getfield 33, 3) := by decide +kernel
theorem dX2_countOf_9 : decode cX2_countOf 9 = .ok (.if_icmp .ge 22, 3) := by decide +kernel
theorem dX2_countOf_12 : decode cX2_countOf 12 = .ok (.aload_n 0, 1) := by decide +kernel
theorem dX2_countOf_13 : decode cX2_countOf 13 = .ok (.getfield 9, 3) := by decide +kernel
theorem dX2_countOf_16 : decode cX2_countOf 16 = .ok (.iload_n 3, 1) := by decide +kernel
theorem dX2_countOf_17 : decode cX2_countOf 17 = .ok (.iaload, 1) := by decide +kernel
theorem dX2_countOf_18 : decode cX2_countOf 18 = .ok (.iload_n 1, 1) := by decide +kernel
theorem dX2_countOf_19 : decode cX2_countOf 19 = .ok (.if_icmp .ne 6, 3) := by decide +kernel
theorem dX2_countOf_22 : decode cX2_countOf 22 = .ok (.iinc 2 1, 3) := by decide +kernel
theorem dX2_countOf_25 : decode cX2_countOf 25 = .ok (.iinc 3 1, 3) := by decide +kernel
theorem dX2_countOf_28 : decode cX2_countOf 28 = .ok (.goto (-24), 3) := by decide +kernel
theorem dX2_countOf_31 : decode cX2_countOf 31 = .ok (.iload_n 2, 1) := by decide +kernel
theorem dX2_countOf_32 : decode cX2_countOf 32 = .ok (.ireturn, 1) := by decide +kernel
theorem dX2_find_0 : decode cX2_find 0 = .ok (.iconst 0, 1) := by decide +kernel
theorem dX2_find_1 : decode cX2_find 1 = .ok (.istore_n 2, 1) := by decide +kernel
theorem dX2_find_2 : decode cX2_find 2 = .ok (.iload_n 2, 1) := by decide +kernel
theorem dX2_find_3 : decode cX2_find 3 = .ok (.aload_n 0, 1) := by decide +kernel
theorem dX2_find_4 : decode cX2_find 4 = .ok (.getfield 33, 3) := by decide +kernel
theorem dX2_find_7 : decode cX2_find 7 = .ok (.if_icmp .ge 21, 3) := by decide +kernel
theorem dX2_find_10 : decode cX2_find 10 = .ok (.aload_n 0, 1) := by decide +kernel
theorem dX2_find_11 : decode cX2_find 11 = .ok (.getfield 18, 3) := by decide +kernel
theorem dX2_find_14 : decode cX2_find 14 = .ok (.iload_n 2, 1) := by decide +kernel
theorem dX2_find_15 : decode cX2_find 15 = .ok (.iaload, 1) := by decide +kernel
theorem dX2_find_16 : decode cX2_find 16 = .ok (.iload_n 1, 1) := by decide +kernel
theorem dX2_find_17 : decode cX2_find 17 = .ok (.if_icmp .ne 5, 3) := by decide +kernel
theorem dX2_find_20 : decode cX2_find 20 = .ok (.iload_n 2, 1) := by decide +kernel
theorem dX2_find_21 : decode cX2_find 21 = .ok (.ireturn, 1) := by decide +kernel
theorem dX2_find_22 : decode cX2_find 22 = .ok (.iinc 2 1, 3) := by decide +kernel
theorem dX2_find_25 : decode cX2_find 25 = .ok (.goto (-23), 3) := by decide +kernel
theorem dX2_find_28 : decode cX2_find 28 = .ok (.iconst (-1), 1) := by decide +kernel
theorem dX2_find_29 : decode cX2_find 29 = .ok (.ireturn, 1) := by decide +kernel
theorem cnf_y {h : Nat → Int} {k t t' : Int} {a b : Nat} (e : t = cnf h k a) (hb : b = a + 1) (hk : h a = k) (ht : t' = t + 1) : t' = cnf h k b := by
  subst hb
  show t' = cnf h k a + if h a = k then 1 else 0
  rw [if_pos hk, ← e]; exact ht
theorem cnf_n {h : Nat → Int} {k t t' : Int} {a b : Nat} (e : t = cnf h k a) (hb : b = a + 1) (hk : ¬ h a = k) (ht : t' = t) : t' = cnf h k b := by
  subst hb
  show t' = cnf h k a + if h a = k then 1 else 0
  rw [if_neg hk, ← e]; omega
theorem wsf_y {h : Nat → Int} {t t' : Int} {a b : Nat} (e : t = wsf h a) (hb : b = a + 1) (ht : t' = t + h a) : t' = wsf h b := by
  subst hb
  show t' = wsf h a + h a
  rw [← e]; exact ht
set_option maxHeartbeats 4000000 in
set_option maxRecDepth 100000 in
theorem c_X2_find (l : Launch) (D : va_G) (g : Nat → ClassId) (n : Nat) (p0 : Int32) (n_nodes : Int32) (n_kind : Nat) (n_pay : Nat) (n_name : Nat) (n_ways : Nat) (n_held : Nat) (n_targets : Nat) (n_weights : Nat) (n_fname : Nat → Int32) (h_n_nodes : 0 ≤ (n_nodes : Int32).toInt ∧ (n_nodes : Int32).toInt ≤ 12) : Met l yX2_find (.code yX2_find cX2_find 3 (some .int) :: wsL_law) ({ frames := 0, cells := 0, slots := 0, locals := 0 }) (va_Pc [.ref n, .int p0] (fun U => va_P D vwCl [(wO2 n n_nodes n_kind n_pay n_name n_ways n_held n_targets n_weights), (wI g n_name 0 12 n_fname)] U.heap ∧ va_K D vwCl (TY g) U)) (vp_Si (fun r => ((-1) ≤ (r : Int32).toInt ∧ (r : Int32).toInt ≤ 11) ∧ (FN (n_nodes : Int32).toInt (fun p => (n_fname p).toInt) (p0 : Int32).toInt (r : Int32).toInt))) 0 0 (fun _ => False) := by
  refine Met.ofW (cc := cX2_find) (maxL := 3) (ret := (some .int)) (by decide) rfl ?_
  intro p e s m args below meth c s₁ B hml hv
  obtain ⟨ha, hP, hK⟩ := hv
  have hx := B.exec
  have hb := B.bytes
  have hr := B.returns
  have hts0 := atoms_spec (ws := (.code yX2_find cX2_find 3 (some .int) :: wsL_law)) B.pre
  have hts : ∀ w ∈ wsL_law, w.before args s = true := fun w h => hts0 w (List.mem_cons_of_mem _ h)
  have hown : s.vm.findClass RX2 = some m.cls := findClass_of_methodNamed B.named
  have hlocks := B.notSynchronized
  have hP : va_P D vwCl [(wO2 n n_nodes n_kind n_pay n_name n_ways n_held n_targets n_weights), (wI g n_name 0 12 n_fname)] s.heap := hP
  refine W.eq (g2 := entryFrame m ([.ref n, .int p0] : List Value).toArray 3) (by rw [ha]) ?_
  have hl := lv_entry ([.ref n, .int p0]) (n := 3) (Nat.le_of_ble_eq_true rfl)
  rw [lg_entry_eq]
  generalize (lg_sl ([.ref n, .int p0]) ++ List.replicate (3 - (lg_sl ([.ref n, .int p0])).length) Slot.unset).toArray = ls at hl ⊢
  have hl : lv_has ls 3 [(0, .ref n), (1, .int p0)] := hl
  refine lv_iconst (v := 0) hx hb dX2_find_0 (by decide) ?_
  refine lv_istore_n (lv' := [(2, .int 0), (0, .ref n), (1, .int p0)]) hx hb dX2_find_1 rfl hl (by decide) rfl (fun ls hl => ?_)
  have lp_59594 : ∀ (n_59594 : Nat) (x_59593 : Int32) (ls : Array Slot), (0 ≤ (x_59593 : Int32).toInt ∧ (x_59593 : Int32).toInt ≤ 12) → (x_59593.toInt ≤ (n_nodes : Int32).toInt ∧ ∀ q : Nat, q < x_59593.toInt.toNat → (n_fname q).toInt ≠ (p0 : Int32).toInt) → (12 - x_59593.toInt < (n_59594 : Int)) → lv_has ls 3 [(2, .int x_59593), (0, .ref n), (1, .int p0)] → W p l e (headSpec (.code yX2_find cX2_find 3 (some .int) :: wsL_law) ({ frames := 0, cells := 0, slots := 0, locals := 0 })).room s m args below meth c s.heap [] 0 0 (MQ below (vp_Si (fun r => ((-1) ≤ (r : Int32).toInt ∧ (r : Int32).toInt ≤ 11) ∧ (FN (n_nodes : Int32).toInt (fun p => (n_fname p).toInt) (p0 : Int32).toInt (r : Int32).toInt))) args s 0 0 (fun _ => False)) (F0 m 2 ls []) := by
    intro n_59594
    induction n_59594 with
    | zero =>
      intro x_59593 ls h_x_59593 hr59594_0 hm_59594 hl
      exfalso; omega
    | succ n_59594 ih_59594 =>
      intro x_59593 ls h_x_59593 hr59594_0 hm_59594 hl
      refine lv_iload_n hx hb dX2_find_2 rfl (lv_at hl 0 rfl) ?_
      refine lv_aload_n hx hb dX2_find_3 rfl (lv_at hl 1 rfl) ?_
      refine va_get (D := D) (ci := 2) (v := .int n_nodes) (C := RX2) (T := TX2) (N := 8) hx hb hts inlX2 hown hK hP 0 rfl rfl 0 (by decide) (hts (Cond.fieldLink RX2 33 "ChanceRings$Net" "nodes" "I") qw_313) (fun _ h9 => h9) rfl dX2_find_4 ?_
      refine lv_icmp_ge (tgt := 28) hx hb dX2_find_7 (by decide) (fun c_59595 => ?_) (fun c_59595 => ?_)
      · skip
        have c_59595_i := Int32.le_iff_toInt_le.mp c_59595
        refine lv_iconst (v := (-1)) hx hb dX2_find_28 (by decide) ?_
        exact W.iret (v := (-1)) hx hb hr (fun t ht hW => ⟨(-1), rfl, ⟨(⟨by decide, by decide⟩ : (-1) ≤ ((-1) : Int32).toInt ∧ ((-1) : Int32).toInt ≤ 11), (Or.inr ⟨tk_m1, fun q h9 => hr59594_0.2 q (by omega)⟩)⟩, ht⟩) (fun _ h => nomatch h) dX2_find_29
      · skip
        have c_59595_i := Int32.lt_iff_toInt_lt.mp (Int32.not_le.mp c_59595)
        have h_59596 : 0 ≤ (x_59593 : Int32).toInt ∧ (x_59593 : Int32).toInt ≤ 11 := nr_lt_l h_x_59593 h_n_nodes c_59595_i (by decide) (by decide)
        have h_59597 : 1 ≤ (n_nodes : Int32).toInt ∧ (n_nodes : Int32).toInt ≤ 12 := nr_lt_r h_x_59593 h_n_nodes c_59595_i (by decide) (by decide)
        refine lv_aload_n hx hb dX2_find_10 rfl (lv_at hl 1 rfl) ?_
        refine va_get (D := D) (ci := 2) (v := .ref n_name) (C := RX2) (T := TX2) (N := 8) hx hb hts inlX2 hown hK hP 0 rfl rfl 3 (by decide) (hts (Cond.fieldLink RX2 18 "ChanceRings$Net" "name" "[I") qw_333) (fun _ h9 => h9) rfl dX2_find_11 ?_
        refine lv_iload_n hx hb dX2_find_14 rfl (lv_at hl 0 rfl) ?_
        refine va_iald hx hb hK hP 1 0 rfl rfl (tr_in h_59596 (by decide) (by decide)) dX2_find_15 ?_
        refine lv_topi (fun v_59598 v_59598_e => ?_)
        have g_v_59598 : v_59598 = n_fname (x_59593.toInt.toNat) := v_59598_e.trans (congrArg n_fname rfl)
        have gi_v_59598 := congrArg Int32.toInt g_v_59598
        refine lv_iload_n hx hb dX2_find_16 rfl (lv_at hl 2 rfl) ?_
        refine lv_icmp_ne (tgt := 22) hx hb dX2_find_17 (by decide) (fun c_59599 => ?_) (fun c_59599 => ?_)
        · skip
          have c_59599_i : ¬ (v_59598 : Int32).toInt = (p0 : Int32).toInt := (fun q => c_59599 (Int32.toInt_inj.mp q))
          obtain ⟨v_59600, v_59600_e⟩ : ∃ y : Int32, y = x_59593 + Int32.ofInt 1 := ⟨_, rfl⟩
          have h_v_59600 : 1 ≤ (v_59600 : Int32).toInt ∧ (v_59600 : Int32).toInt ≤ 12 := by rw [v_59600_e]; exact tr_add h_59596 (⟨by decide, by decide⟩ : 1 ≤ (Int32.ofInt 1 : Int32).toInt ∧ (Int32.ofInt 1 : Int32).toInt ≤ 1) (by decide) (by decide) (by decide) (by decide)
          have q_v_59600 : v_59600.toInt = x_59593.toInt + 1 := by rw [v_59600_e]; exact tr_addE h_59596 (⟨by decide, by decide⟩ : 1 ≤ (Int32.ofInt 1 : Int32).toInt ∧ (Int32.ofInt 1 : Int32).toInt ≤ 1) (by decide) (by decide)
          refine lv_iinc (v := v_59600) (lv' := [(2, .int v_59600), (0, .ref n), (1, .int p0)]) hx hb dX2_find_22 hl (k := 0) rfl v_59600_e.symm (by decide) rfl (fun ls hl => ?_)
          refine lv_goto (tgt := 2) hx hb dX2_find_25 (by decide) ?_
          exact ih_59594 v_59600 ls (tr_w h_v_59600 (by decide) (by decide)) ⟨by omega, all_next hr59594_0.2 (fun e9 => c_59599_i (gi_v_59598.trans e9)) (by omega)⟩ (by omega) (lv_sub hl [0, 1, 2] rfl)
        · skip
          have c_59599_i : (v_59598 : Int32).toInt = (p0 : Int32).toInt := congrArg Int32.toInt c_59599
          refine lv_iload_n hx hb dX2_find_20 rfl (lv_at hl 0 rfl) ?_
          exact W.iret (v := x_59593) hx hb hr (fun t ht hW => ⟨x_59593, rfl, ⟨(tr_w h_59596 (by decide) (by decide)), (Or.inl ⟨by omega, by omega, gi_v_59598.symm.trans c_59599_i, fun q h9 => hr59594_0.2 q (by omega)⟩)⟩, ht⟩) (fun _ h => nomatch h) dX2_find_21
  exact lp_59594 13 0 ls (⟨by decide, by decide⟩ : 0 ≤ (0 : Int32).toInt ∧ (0 : Int32).toInt ≤ 12) ⟨h_n_nodes.1, fun q h9 => absurd h9 (Nat.not_lt_zero q)⟩ (by decide) (lv_sub hl [0, 1, 2] rfl)
set_option maxHeartbeats 4000000 in
set_option maxRecDepth 100000 in
theorem c_X2_countOf (l : Launch) (D : va_G) (g : Nat → ClassId) (n : Nat) (p0 : Int32) (n_nodes : Int32) (n_kind : Nat) (n_pay : Nat) (n_name : Nat) (n_ways : Nat) (n_held : Nat) (n_targets : Nat) (n_weights : Nat) (n_fkind : Nat → Int32) (h_n_nodes : 0 ≤ (n_nodes : Int32).toInt ∧ (n_nodes : Int32).toInt ≤ 12) (h_n_fkind : ∀ j : Nat, 0 ≤ (n_fkind j).toInt ∧ (n_fkind j).toInt ≤ 3) : Met l yX2_countOf (.code yX2_countOf cX2_countOf 4 (some .int) :: wsL_law) ({ frames := 0, cells := 0, slots := 0, locals := 0 }) (va_Pc [.ref n, .int p0] (fun U => va_P D vwCl [(wO2 n n_nodes n_kind n_pay n_name n_ways n_held n_targets n_weights), (wI g n_kind 0 12 n_fkind)] U.heap ∧ va_K D vwCl (TY g) U)) (vp_Si (fun r => (0 ≤ (r : Int32).toInt ∧ (r : Int32).toInt ≤ 12) ∧ ((r : Int32).toInt = cnf (fun p => (n_fkind p).toInt) (p0 : Int32).toInt (n_nodes : Int32).toInt.toNat))) 0 0 (fun _ => False) := by
  refine Met.ofW (cc := cX2_countOf) (maxL := 4) (ret := (some .int)) (by decide) rfl ?_
  intro p e s m args below meth c s₁ B hml hv
  obtain ⟨ha, hP, hK⟩ := hv
  have hx := B.exec
  have hb := B.bytes
  have hr := B.returns
  have hts0 := atoms_spec (ws := (.code yX2_countOf cX2_countOf 4 (some .int) :: wsL_law)) B.pre
  have hts : ∀ w ∈ wsL_law, w.before args s = true := fun w h => hts0 w (List.mem_cons_of_mem _ h)
  have hown : s.vm.findClass RX2 = some m.cls := findClass_of_methodNamed B.named
  have hlocks := B.notSynchronized
  have hP : va_P D vwCl [(wO2 n n_nodes n_kind n_pay n_name n_ways n_held n_targets n_weights), (wI g n_kind 0 12 n_fkind)] s.heap := hP
  refine W.eq (g2 := entryFrame m ([.ref n, .int p0] : List Value).toArray 4) (by rw [ha]) ?_
  have hl := lv_entry ([.ref n, .int p0]) (n := 4) (Nat.le_of_ble_eq_true rfl)
  rw [lg_entry_eq]
  generalize (lg_sl ([.ref n, .int p0]) ++ List.replicate (4 - (lg_sl ([.ref n, .int p0])).length) Slot.unset).toArray = ls at hl ⊢
  have hl : lv_has ls 4 [(0, .ref n), (1, .int p0)] := hl
  refine lv_iconst (v := 0) hx hb dX2_countOf_0 (by decide) ?_
  refine lv_istore_n (lv' := [(2, .int 0), (0, .ref n), (1, .int p0)]) hx hb dX2_countOf_1 rfl hl (by decide) rfl (fun ls hl => ?_)
  refine lv_iconst (v := 0) hx hb dX2_countOf_2 (by decide) ?_
  refine lv_istore_n (lv' := [(3, .int 0), (2, .int 0), (0, .ref n), (1, .int p0)]) hx hb dX2_countOf_3 rfl hl (by decide) rfl (fun ls hl => ?_)
  have lp_59613 : ∀ (n_59613 : Nat) (x_59611 : Int32) (x_59612 : Int32) (ls : Array Slot), (0 ≤ (x_59611 : Int32).toInt ∧ (x_59611 : Int32).toInt ≤ 12) → (0 ≤ (x_59612 : Int32).toInt ∧ (x_59612 : Int32).toInt ≤ 12) → (x_59611.toInt = cnf (fun p => (n_fkind p).toInt) (p0 : Int32).toInt x_59612.toInt.toNat ∧ x_59611.toInt ≤ x_59612.toInt ∧ x_59612.toInt ≤ (n_nodes : Int32).toInt) → (12 - x_59612.toInt < (n_59613 : Int)) → lv_has ls 4 [(3, .int x_59612), (2, .int x_59611), (0, .ref n), (1, .int p0)] → W p l e (headSpec (.code yX2_countOf cX2_countOf 4 (some .int) :: wsL_law) ({ frames := 0, cells := 0, slots := 0, locals := 0 })).room s m args below meth c s.heap [] 0 0 (MQ below (vp_Si (fun r => (0 ≤ (r : Int32).toInt ∧ (r : Int32).toInt ≤ 12) ∧ ((r : Int32).toInt = cnf (fun p => (n_fkind p).toInt) (p0 : Int32).toInt (n_nodes : Int32).toInt.toNat))) args s 0 0 (fun _ => False)) (F0 m 4 ls []) := by
    intro n_59613
    induction n_59613 with
    | zero =>
      intro x_59611 x_59612 ls h_x_59611 h_x_59612 hr59613_0 hm_59613 hl
      exfalso; omega
    | succ n_59613 ih_59613 =>
      intro x_59611 x_59612 ls h_x_59611 h_x_59612 hr59613_0 hm_59613 hl
      refine lv_iload_n hx hb dX2_countOf_4 rfl (lv_at hl 0 rfl) ?_
      refine lv_aload_n hx hb dX2_countOf_5 rfl (lv_at hl 2 rfl) ?_
      refine va_get (D := D) (ci := 2) (v := .int n_nodes) (C := RX2) (T := TX2) (N := 8) hx hb hts inlX2 hown hK hP 0 rfl rfl 0 (by decide) (hts (Cond.fieldLink RX2 33 "ChanceRings$Net" "nodes" "I") qw_313) (fun _ h9 => h9) rfl dX2_countOf_6 ?_
      refine lv_icmp_ge (tgt := 31) hx hb dX2_countOf_9 (by decide) (fun c_59614 => ?_) (fun c_59614 => ?_)
      · skip
        have c_59614_i := Int32.le_iff_toInt_le.mp c_59614
        refine lv_iload_n hx hb dX2_countOf_31 rfl (lv_at hl 1 rfl) ?_
        exact W.iret (v := x_59611) hx hb hr (fun t ht hW => ⟨x_59611, rfl, ⟨(tr_w h_x_59611 (by decide) (by decide)), (hr59613_0.1.trans (congrArg (cnf (fun p => (n_fkind p).toInt) (p0 : Int32).toInt) (by omega)))⟩, ht⟩) (fun _ h => nomatch h) dX2_countOf_32
      · skip
        have c_59614_i := Int32.lt_iff_toInt_lt.mp (Int32.not_le.mp c_59614)
        have h_59615 : 0 ≤ (x_59612 : Int32).toInt ∧ (x_59612 : Int32).toInt ≤ 11 := nr_lt_l h_x_59612 h_n_nodes c_59614_i (by decide) (by decide)
        have h_59616 : 1 ≤ (n_nodes : Int32).toInt ∧ (n_nodes : Int32).toInt ≤ 12 := nr_lt_r h_x_59612 h_n_nodes c_59614_i (by decide) (by decide)
        refine lv_aload_n hx hb dX2_countOf_12 rfl (lv_at hl 2 rfl) ?_
        refine va_get (D := D) (ci := 2) (v := .ref n_kind) (C := RX2) (T := TX2) (N := 8) hx hb hts inlX2 hown hK hP 0 rfl rfl 1 (by decide) (hts (Cond.fieldLink RX2 9 "ChanceRings$Net" "kind" "[I") qw_316) (fun _ h9 => h9) rfl dX2_countOf_13 ?_
        refine lv_iload_n hx hb dX2_countOf_16 rfl (lv_at hl 0 rfl) ?_
        refine va_iald hx hb hK hP 1 0 rfl rfl (tr_in h_59615 (by decide) (by decide)) dX2_countOf_17 ?_
        refine lv_topi (fun v_59617 v_59617_e => ?_)
        have h_v_59617 : 0 ≤ (v_59617 : Int32).toInt ∧ (v_59617 : Int32).toInt ≤ 3 := by rw [v_59617_e]; exact h_n_fkind _
        have g_v_59617 : v_59617 = n_fkind (x_59612.toInt.toNat) := v_59617_e.trans (congrArg n_fkind rfl)
        have gi_v_59617 := congrArg Int32.toInt g_v_59617
        refine lv_iload_n hx hb dX2_countOf_18 rfl (lv_at hl 3 rfl) ?_
        refine lv_icmp_ne (tgt := 25) hx hb dX2_countOf_19 (by decide) (fun c_59618 => ?_) (fun c_59618 => ?_)
        · skip
          have c_59618_i : ¬ (v_59617 : Int32).toInt = (p0 : Int32).toInt := (fun q => c_59618 (Int32.toInt_inj.mp q))
          obtain ⟨v_59619, v_59619_e⟩ : ∃ y : Int32, y = x_59612 + Int32.ofInt 1 := ⟨_, rfl⟩
          have h_v_59619 : 1 ≤ (v_59619 : Int32).toInt ∧ (v_59619 : Int32).toInt ≤ 12 := by rw [v_59619_e]; exact tr_add h_59615 (⟨by decide, by decide⟩ : 1 ≤ (Int32.ofInt 1 : Int32).toInt ∧ (Int32.ofInt 1 : Int32).toInt ≤ 1) (by decide) (by decide) (by decide) (by decide)
          have q_v_59619 : v_59619.toInt = x_59612.toInt + 1 := by rw [v_59619_e]; exact tr_addE h_59615 (⟨by decide, by decide⟩ : 1 ≤ (Int32.ofInt 1 : Int32).toInt ∧ (Int32.ofInt 1 : Int32).toInt ≤ 1) (by decide) (by decide)
          refine lv_iinc (v := v_59619) (lv' := [(3, .int v_59619), (2, .int x_59611), (0, .ref n), (1, .int p0)]) hx hb dX2_countOf_25 hl (k := 0) rfl v_59619_e.symm (by decide) rfl (fun ls hl => ?_)
          refine lv_goto (tgt := 4) hx hb dX2_countOf_28 (by decide) ?_
          exact ih_59613 x_59611 v_59619 ls (tr_w h_x_59611 (by decide) (by decide)) (tr_w h_v_59619 (by decide) (by decide)) ⟨cnf_n hr59613_0.1 (by omega) (fun e9 => c_59618_i (gi_v_59617.trans e9)) (by omega), by omega, by omega⟩ (by omega) (lv_sub hl [0, 1, 2, 3] rfl)
        · skip
          have c_59618_i : (v_59617 : Int32).toInt = (p0 : Int32).toInt := congrArg Int32.toInt c_59618
          obtain ⟨v_59620, v_59620_e⟩ : ∃ y : Int32, y = x_59611 + Int32.ofInt 1 := ⟨_, rfl⟩
          have h_v_59620 : 1 ≤ (v_59620 : Int32).toInt ∧ (v_59620 : Int32).toInt ≤ 13 := by rw [v_59620_e]; exact tr_add h_x_59611 (⟨by decide, by decide⟩ : 1 ≤ (Int32.ofInt 1 : Int32).toInt ∧ (Int32.ofInt 1 : Int32).toInt ≤ 1) (by decide) (by decide) (by decide) (by decide)
          have q_v_59620 : v_59620.toInt = x_59611.toInt + 1 := by rw [v_59620_e]; exact tr_addE h_x_59611 (⟨by decide, by decide⟩ : 1 ≤ (Int32.ofInt 1 : Int32).toInt ∧ (Int32.ofInt 1 : Int32).toInt ≤ 1) (by decide) (by decide)
          refine lv_iinc (v := v_59620) (lv' := [(2, .int v_59620), (3, .int x_59612), (0, .ref n), (1, .int p0)]) hx hb dX2_countOf_22 hl (k := 1) rfl v_59620_e.symm (by decide) rfl (fun ls hl => ?_)
          obtain ⟨v_59621, v_59621_e⟩ : ∃ y : Int32, y = x_59612 + Int32.ofInt 1 := ⟨_, rfl⟩
          have h_v_59621 : 1 ≤ (v_59621 : Int32).toInt ∧ (v_59621 : Int32).toInt ≤ 12 := by rw [v_59621_e]; exact tr_add h_59615 (⟨by decide, by decide⟩ : 1 ≤ (Int32.ofInt 1 : Int32).toInt ∧ (Int32.ofInt 1 : Int32).toInt ≤ 1) (by decide) (by decide) (by decide) (by decide)
          have q_v_59621 : v_59621.toInt = x_59612.toInt + 1 := by rw [v_59621_e]; exact tr_addE h_59615 (⟨by decide, by decide⟩ : 1 ≤ (Int32.ofInt 1 : Int32).toInt ∧ (Int32.ofInt 1 : Int32).toInt ≤ 1) (by decide) (by decide)
          refine lv_iinc (v := v_59621) (lv' := [(3, .int v_59621), (2, .int v_59620), (0, .ref n), (1, .int p0)]) hx hb dX2_countOf_25 hl (k := 1) rfl v_59621_e.symm (by decide) rfl (fun ls hl => ?_)
          refine lv_goto (tgt := 4) hx hb dX2_countOf_28 (by decide) ?_
          exact ih_59613 v_59620 v_59621 ls (by omega) (tr_w h_v_59621 (by decide) (by decide)) ⟨cnf_y hr59613_0.1 (by omega) (gi_v_59617.symm.trans c_59618_i) (by omega), by omega, by omega⟩ (by omega) (lv_sub hl [0, 1, 2, 3] rfl)
  exact lp_59613 13 0 0 ls (⟨by decide, by decide⟩ : 0 ≤ (0 : Int32).toInt ∧ (0 : Int32).toInt ≤ 12) (⟨by decide, by decide⟩ : 0 ≤ (0 : Int32).toInt ∧ (0 : Int32).toInt ≤ 12) ⟨rfl, by have z_0 := tk_0; omega, by have z_0 := tk_0; omega⟩ (by decide) (lv_sub hl [0, 1, 2, 3] rfl)
set_option maxHeartbeats 4000000 in
set_option maxRecDepth 100000 in
theorem c_X2_togetherR (l : Launch) (D : va_G) (g : Nat → ClassId) (n : Nat) (p0 : Int32) (n_nodes : Int32) (n_kind : Nat) (n_pay : Nat) (n_name : Nat) (n_ways : Nat) (n_held : Nat) (n_targets : Nat) (n_weights : Nat) (n_fkind : Nat → Int32) (n_fways : Nat → Int32) (n_fweights : Nat → Int32) (h_p0 : 0 ≤ (p0 : Int32).toInt ∧ (p0 : Int32).toInt ≤ 11) (h_n_nodes : 0 ≤ (n_nodes : Int32).toInt ∧ (n_nodes : Int32).toInt ≤ 12) (h_n_fkind : ∀ j : Nat, 0 ≤ (n_fkind j).toInt ∧ (n_fkind j).toInt ≤ 3) (h_n_fways : ∀ j : Nat, 0 ≤ (n_fways j).toInt ∧ (n_fways j).toInt ≤ 3) (hwr : ∀ i : Nat, (i : Int) < (n_fways (p0 : Int32).toInt.toNat).toInt → 0 ≤ (n_fweights (3 * (p0 : Int32).toInt.toNat + i)).toInt ∧ (n_fweights (3 * (p0 : Int32).toInt.toNat + i)).toInt ≤ 3) : Met l yX2_together (.code yX2_together cX2_together 4 (some .int) :: wsL_law) ({ frames := 0, cells := 0, slots := 0, locals := 0 }) (va_Pc [.ref n, .int p0] (fun U => va_P D vwCl [(wO2 n n_nodes n_kind n_pay n_name n_ways n_held n_targets n_weights), (wI g n_kind 0 12 n_fkind), (wI g n_ways 0 12 n_fways), (wI g n_weights 0 36 n_fweights)] U.heap ∧ va_K D vwCl (TY g) U)) (vp_Si (fun r => (0 ≤ (r : Int32).toInt ∧ (r : Int32).toInt ≤ 9) ∧ (Hide ((n_fkind (p0 : Int32).toInt.toNat).toInt = 3 → (r : Int32).toInt = wsf (fun i => (n_fweights (3 * (p0 : Int32).toInt.toNat + i)).toInt) (n_fways (p0 : Int32).toInt.toNat).toInt.toNat)))) 0 0 (fun _ => False) := by
  refine Met.ofW (cc := cX2_together) (maxL := 4) (ret := (some .int)) (by decide) rfl ?_
  intro p e s m args below meth c s₁ B hml hv
  obtain ⟨ha, hP, hK⟩ := hv
  have hx := B.exec
  have hb := B.bytes
  have hr := B.returns
  have hts0 := atoms_spec (ws := (.code yX2_together cX2_together 4 (some .int) :: wsL_law)) B.pre
  have hts : ∀ w ∈ wsL_law, w.before args s = true := fun w h => hts0 w (List.mem_cons_of_mem _ h)
  have hown : s.vm.findClass RX2 = some m.cls := findClass_of_methodNamed B.named
  have hlocks := B.notSynchronized
  have hP : va_P D vwCl [(wO2 n n_nodes n_kind n_pay n_name n_ways n_held n_targets n_weights), (wI g n_kind 0 12 n_fkind), (wI g n_ways 0 12 n_fways), (wI g n_weights 0 36 n_fweights)] s.heap := hP
  refine W.eq (g2 := entryFrame m ([.ref n, .int p0] : List Value).toArray 4) (by rw [ha]) ?_
  have hl := lv_entry ([.ref n, .int p0]) (n := 4) (Nat.le_of_ble_eq_true rfl)
  rw [lg_entry_eq]
  generalize (lg_sl ([.ref n, .int p0]) ++ List.replicate (4 - (lg_sl ([.ref n, .int p0])).length) Slot.unset).toArray = ls at hl ⊢
  have hl : lv_has ls 4 [(0, .ref n), (1, .int p0)] := hl
  refine lv_aload_n hx hb dX2_together_0 rfl (lv_at hl 0 rfl) ?_
  refine va_get (D := D) (ci := 2) (v := .ref n_kind) (C := RX2) (T := TX2) (N := 8) hx hb hts inlX2 hown hK hP 0 rfl rfl 1 (by decide) (hts (Cond.fieldLink RX2 9 "ChanceRings$Net" "kind" "[I") qw_316) (fun _ h9 => h9) rfl dX2_together_1 ?_
  refine lv_iload_n hx hb dX2_together_4 rfl (lv_at hl 1 rfl) ?_
  refine va_iald hx hb hK hP 1 0 rfl rfl (tr_in h_p0 (by decide) (by decide)) dX2_together_5 ?_
  refine lv_topi (fun v_59622 v_59622_e => ?_)
  have h_v_59622 : 0 ≤ (v_59622 : Int32).toInt ∧ (v_59622 : Int32).toInt ≤ 3 := by rw [v_59622_e]; exact h_n_fkind _
  have g_v_59622 : v_59622 = n_fkind (p0.toInt.toNat) := v_59622_e.trans (congrArg n_fkind rfl)
  have gi_v_59622 := congrArg Int32.toInt g_v_59622
  refine lv_iconst (v := 3) hx hb dX2_together_6 (by decide) ?_
  refine lv_icmp_eq (tgt := 12) hx hb dX2_together_7 (by decide) (fun c_59623 => ?_) (fun c_59623 => ?_)
  · skip
    have kk_3 := tk_3
    have c_59623_i : (v_59622 : Int32).toInt = (3 : Int32).toInt := congrArg Int32.toInt c_59623
    have h_59624 : 3 ≤ (v_59622 : Int32).toInt ∧ (v_59622 : Int32).toInt ≤ 3 := nr_eq_l h_v_59622 (⟨by decide, by decide⟩ : 3 ≤ (3 : Int32).toInt ∧ (3 : Int32).toInt ≤ 3) c_59623_i (by decide) (by decide)
    refine lv_iconst (v := 0) hx hb dX2_together_12 (by decide) ?_
    refine lv_istore_n (lv' := [(2, .int 0), (0, .ref n), (1, .int p0)]) hx hb dX2_together_13 rfl hl (by decide) rfl (fun ls hl => ?_)
    refine lv_iconst (v := 0) hx hb dX2_together_14 (by decide) ?_
    refine lv_istore_n (lv' := [(3, .int 0), (2, .int 0), (0, .ref n), (1, .int p0)]) hx hb dX2_together_15 rfl hl (by decide) rfl (fun ls hl => ?_)
    have lp_59640 : ∀ (n_59640 : Nat) (x_59638 : Int32) (x_59639 : Int32) (ls : Array Slot), (0 ≤ (x_59638 : Int32).toInt ∧ (x_59638 : Int32).toInt ≤ 9) → (0 ≤ (x_59639 : Int32).toInt ∧ (x_59639 : Int32).toInt ≤ 3) → (x_59638.toInt = wsf (fun i => (n_fweights (3 * (p0 : Int32).toInt.toNat + i)).toInt) x_59639.toInt.toNat ∧ x_59638.toInt ≤ 3 * x_59639.toInt ∧ x_59639.toInt ≤ (n_fways (p0 : Int32).toInt.toNat).toInt) → (3 - x_59639.toInt < (n_59640 : Int)) → lv_has ls 4 [(3, .int x_59639), (2, .int x_59638), (0, .ref n), (1, .int p0)] → W p l e (headSpec (.code yX2_together cX2_together 4 (some .int) :: wsL_law) ({ frames := 0, cells := 0, slots := 0, locals := 0 })).room s m args below meth c s.heap [] 0 0 (MQ below (vp_Si (fun r => (0 ≤ (r : Int32).toInt ∧ (r : Int32).toInt ≤ 9) ∧ (Hide ((n_fkind (p0 : Int32).toInt.toNat).toInt = 3 → (r : Int32).toInt = wsf (fun i => (n_fweights (3 * (p0 : Int32).toInt.toNat + i)).toInt) (n_fways (p0 : Int32).toInt.toNat).toInt.toNat)))) args s 0 0 (fun _ => False)) (F0 m 16 ls []) := by
      intro n_59640
      induction n_59640 with
      | zero =>
        intro x_59638 x_59639 ls h_x_59638 h_x_59639 hr59640_0 hm_59640 hl
        exfalso; omega
      | succ n_59640 ih_59640 =>
        intro x_59638 x_59639 ls h_x_59638 h_x_59639 hr59640_0 hm_59640 hl
        refine lv_iload_n hx hb dX2_together_16 rfl (lv_at hl 0 rfl) ?_
        refine lv_aload_n hx hb dX2_together_17 rfl (lv_at hl 2 rfl) ?_
        refine va_get (D := D) (ci := 2) (v := .ref n_ways) (C := RX2) (T := TX2) (N := 8) hx hb hts inlX2 hown hK hP 0 rfl rfl 4 (by decide) (hts (Cond.fieldLink RX2 21 "ChanceRings$Net" "ways" "[I") qw_318) (fun _ h9 => h9) rfl dX2_together_18 ?_
        refine lv_iload_n hx hb dX2_together_21 rfl (lv_at hl 3 rfl) ?_
        refine va_iald hx hb hK hP 2 0 rfl rfl (tr_in h_p0 (by decide) (by decide)) dX2_together_22 ?_
        refine lv_topi (fun v_59641 v_59641_e => ?_)
        have h_v_59641 : 0 ≤ (v_59641 : Int32).toInt ∧ (v_59641 : Int32).toInt ≤ 3 := by rw [v_59641_e]; exact h_n_fways _
        have g_v_59641 : v_59641 = n_fways (p0.toInt.toNat) := v_59641_e.trans (congrArg n_fways rfl)
        have gi_v_59641 := congrArg Int32.toInt g_v_59641
        refine lv_icmp_ge (tgt := 45) hx hb dX2_together_23 (by decide) (fun c_59642 => ?_) (fun c_59642 => ?_)
        · skip
          have c_59642_i := Int32.le_iff_toInt_le.mp c_59642
          refine lv_iload_n hx hb dX2_together_45 rfl (lv_at hl 1 rfl) ?_
          exact W.iret (v := x_59638) hx hb hr (fun t ht hW => ⟨x_59638, rfl, ⟨(tr_w h_x_59638 (by decide) (by decide)), (fun _ => hr59640_0.1.trans (congrArg (wsf (fun i => (n_fweights (3 * (p0 : Int32).toInt.toNat + i)).toInt)) (by have q8 := gi_v_59641; omega)))⟩, ht⟩) (fun _ h => nomatch h) dX2_together_46
        · skip
          have c_59642_i := Int32.lt_iff_toInt_lt.mp (Int32.not_le.mp c_59642)
          have h_59643 : 0 ≤ (x_59639 : Int32).toInt ∧ (x_59639 : Int32).toInt ≤ 2 := nr_lt_l h_x_59639 h_v_59641 c_59642_i (by decide) (by decide)
          have h_59644 : 1 ≤ (v_59641 : Int32).toInt ∧ (v_59641 : Int32).toInt ≤ 3 := nr_lt_r h_x_59639 h_v_59641 c_59642_i (by decide) (by decide)
          refine lv_iload_n hx hb dX2_together_26 rfl (lv_at hl 1 rfl) ?_
          refine lv_aload_n hx hb dX2_together_27 rfl (lv_at hl 2 rfl) ?_
          refine va_get (D := D) (ci := 2) (v := .ref n_weights) (C := RX2) (T := TX2) (N := 8) hx hb hts inlX2 hown hK hP 0 rfl rfl 7 (by decide) (hts (Cond.fieldLink RX2 30 "ChanceRings$Net" "weights" "[I") qw_332) (fun _ h9 => h9) rfl dX2_together_28 ?_
          refine lv_iload_n hx hb dX2_together_31 rfl (lv_at hl 3 rfl) ?_
          refine lv_iconst (v := 3) hx hb dX2_together_32 (by decide) ?_
          refine lv_imul hx hb dX2_together_33 ?_
          refine lv_topi (fun v_59645 v_59645_e => ?_)
          have h_v_59645 : 0 ≤ (v_59645 : Int32).toInt ∧ (v_59645 : Int32).toInt ≤ 33 := by rw [v_59645_e]; exact tr_mul h_p0 (⟨by decide, by decide⟩ : 3 ≤ (3 : Int32).toInt ∧ (3 : Int32).toInt ≤ 3) (by decide) (by decide) (by decide) (by decide)
          have q_v_59645 : v_59645.toInt = p0.toInt * 3 := by rw [v_59645_e]; exact (tr_mulX h_p0 (⟨by decide, by decide⟩ : 3 ≤ (3 : Int32).toInt ∧ (3 : Int32).toInt ≤ 3) (by decide) (by decide)).trans (by rw [tk_3])
          refine lv_iload_n hx hb dX2_together_34 rfl (lv_at hl 0 rfl) ?_
          refine lv_iadd hx hb dX2_together_35 ?_
          refine lv_topi (fun v_59646 v_59646_e => ?_)
          have h_v_59646 : 0 ≤ (v_59646 : Int32).toInt ∧ (v_59646 : Int32).toInt ≤ 35 := by rw [v_59646_e]; exact tr_add h_v_59645 h_59643 (by decide) (by decide) (by decide) (by decide)
          have q_v_59646 : v_59646.toInt = v_59645.toInt + x_59639.toInt := by rw [v_59646_e]; exact tr_addX h_v_59645 h_59643 (by decide) (by decide)
          refine va_iald hx hb hK hP 3 0 rfl rfl (tr_in h_v_59646 (by decide) (by decide)) dX2_together_36 ?_
          refine lv_topi (fun v_59647 v_59647_e => ?_)
          have g_v_59647 : v_59647 = n_fweights (p0.toInt.toNat * 3 + x_59639.toInt.toNat) := v_59647_e.trans (congrArg n_fweights (by show Int.toNat _ = _; omega))
          have gi_v_59647 := congrArg Int32.toInt g_v_59647
          have tw_9 : v_59647.toInt = (n_fweights (3 * (p0 : Int32).toInt.toNat + x_59639.toInt.toNat)).toInt := gi_v_59647.trans (congrArg (fun k9 => (n_fweights k9).toInt) (by omega))
          have h_59648 : 0 ≤ (v_59647 : Int32).toInt ∧ (v_59647 : Int32).toInt ≤ 3 := by have q9 := hwr x_59639.toInt.toNat (by have q8 := gi_v_59641; omega); omega
          refine lv_iadd hx hb dX2_together_37 ?_
          refine lv_topi (fun v_59649 v_59649_e => ?_)
          have h_v_59649 : 0 ≤ (v_59649 : Int32).toInt ∧ (v_59649 : Int32).toInt ≤ 12 := by rw [v_59649_e]; exact tr_add h_x_59638 h_59648 (by decide) (by decide) (by decide) (by decide)
          have q_v_59649 : v_59649.toInt = x_59638.toInt + v_59647.toInt := by rw [v_59649_e]; exact tr_addX h_x_59638 h_59648 (by decide) (by decide)
          refine lv_istore_n (lv' := [(2, .int v_59649), (3, .int x_59639), (0, .ref n), (1, .int p0)]) hx hb dX2_together_38 rfl hl (by decide) rfl (fun ls hl => ?_)
          obtain ⟨v_59650, v_59650_e⟩ : ∃ y : Int32, y = x_59639 + Int32.ofInt 1 := ⟨_, rfl⟩
          have h_v_59650 : 1 ≤ (v_59650 : Int32).toInt ∧ (v_59650 : Int32).toInt ≤ 3 := by rw [v_59650_e]; exact tr_add h_59643 (⟨by decide, by decide⟩ : 1 ≤ (Int32.ofInt 1 : Int32).toInt ∧ (Int32.ofInt 1 : Int32).toInt ≤ 1) (by decide) (by decide) (by decide) (by decide)
          have q_v_59650 : v_59650.toInt = x_59639.toInt + 1 := by rw [v_59650_e]; exact tr_addE h_59643 (⟨by decide, by decide⟩ : 1 ≤ (Int32.ofInt 1 : Int32).toInt ∧ (Int32.ofInt 1 : Int32).toInt ≤ 1) (by decide) (by decide)
          refine lv_iinc (v := v_59650) (lv' := [(3, .int v_59650), (2, .int v_59649), (0, .ref n), (1, .int p0)]) hx hb dX2_together_39 hl (k := 1) rfl v_59650_e.symm (by decide) rfl (fun ls hl => ?_)
          refine lv_goto (tgt := 16) hx hb dX2_together_42 (by decide) ?_
          exact ih_59640 v_59649 v_59650 ls (by omega) (tr_w h_v_59650 (by decide) (by decide)) ⟨wsf_y hr59640_0.1 (by omega) (by have q8 := tw_9; omega), by omega, by have q8 := gi_v_59641; omega⟩ (by omega) (lv_sub hl [0, 1, 2, 3] rfl)
    exact lp_59640 4 0 0 ls (⟨by decide, by decide⟩ : 0 ≤ (0 : Int32).toInt ∧ (0 : Int32).toInt ≤ 9) (⟨by decide, by decide⟩ : 0 ≤ (0 : Int32).toInt ∧ (0 : Int32).toInt ≤ 3) ⟨rfl, by have z_0 := tk_0; omega, by have z_0 := tk_0; have q9 := h_n_fways (p0 : Int32).toInt.toNat; omega⟩ (by decide) (lv_sub hl [0, 1, 2, 3] rfl)
  · skip
    have kk_3 := tk_3
    have c_59623_i : ¬ (v_59622 : Int32).toInt = (3 : Int32).toInt := (fun q => c_59623 (Int32.toInt_inj.mp q))
    have h_59625 : 0 ≤ (v_59622 : Int32).toInt ∧ (v_59622 : Int32).toInt ≤ 2 := nr_ne_l h_v_59622 (⟨by decide, by decide⟩ : 3 ≤ (3 : Int32).toInt ∧ (3 : Int32).toInt ≤ 3) c_59623_i (by decide) (by decide)
    refine lv_iconst (v := 1) hx hb dX2_together_10 (by decide) ?_
    exact W.iret (v := 1) hx hb hr (fun t ht hW => ⟨1, rfl, ⟨(⟨by decide, by decide⟩ : 0 ≤ (1 : Int32).toInt ∧ (1 : Int32).toInt ≤ 9), (fun h9 => absurd h9 (by have z3 := tk_3; (first | (clear h_p0 h_n_nodes h_v_59622 g_v_59622 gi_v_59622 c_59623_i h_59625; omega) | omega)))⟩, ht⟩) (fun _ h => nomatch h) dX2_together_11
set_option maxHeartbeats 4000000 in
set_option maxRecDepth 100000 in
theorem c_X2_addNode (l : Launch) (D : va_G) (g : Nat → ClassId) (sz : Nat) (n : Nat) (p0 : Int32) (p1 : Int32) (p2 : Int32) (n_nodes : Int32) (n_kind : Nat) (n_pay : Nat) (n_name : Nat) (n_ways : Nat) (n_held : Nat) (n_targets : Nat) (n_weights : Nat) (n_fkind : Nat → Int32) (n_fpay : Nat → Int32) (n_fname : Nat → Int32) (n_fways : Nat → Int32) (n_fheld : Nat → Int32) (h_p0 : 0 ≤ (p0 : Int32).toInt ∧ (p0 : Int32).toInt ≤ 3) (h_n_nodes : 0 ≤ (n_nodes : Int32).toInt ∧ (n_nodes : Int32).toInt ≤ 11) (h_n_fkind : ∀ j : Nat, 0 ≤ (n_fkind j).toInt ∧ (n_fkind j).toInt ≤ 3) (h_n_fways : ∀ j : Nat, 0 ≤ (n_fways j).toInt ∧ (n_fways j).toInt ≤ 3) (h_n_fheld : ∀ j : Nat, (-1) ≤ (n_fheld j).toInt ∧ (n_fheld j).toInt ≤ 2) : Met l yX2_addNode (.code yX2_addNode cX2_addNode 4 none :: wsL_law) ({ frames := 0, cells := 0, slots := 0, locals := 0 }) (va_Pc [.ref n, .int p0, .int p1, .int p2] (fun U => U.heap.size = sz ∧ va_P D vwCl [(wO2 n n_nodes n_kind n_pay n_name n_ways n_held n_targets n_weights), (wI g n_kind 0 12 n_fkind), (wI g n_pay 0 12 n_fpay), (wI g n_name 0 12 n_fname), (wI g n_ways 0 12 n_fways), (wI g n_held 0 12 n_fheld)] U.heap ∧ va_K D vwCl (TY g) U ∧ va_D (fun _ => True) [(wO2 n n_nodes n_kind n_pay n_name n_ways n_held n_targets n_weights), (wI g n_kind 0 12 n_fkind), (wI g n_pay 0 12 n_fpay), (wI g n_name 0 12 n_fname), (wI g n_ways 0 12 n_fways), (wI g n_held 0 12 n_fheld)])) (va_Qv (fun (_ : Unit) => True) (fun _ t => ∃ on : Int32, ∃ n_gkind : Nat → Int32, ∃ n_gpay : Nat → Int32, ∃ n_gname : Nat → Int32, ∃ n_gways : Nat → Int32, ∃ n_gheld : Nat → Int32, (1 ≤ (on : Int32).toInt ∧ (on : Int32).toInt ≤ 12) ∧ (∀ j : Nat, 0 ≤ (n_gkind j).toInt ∧ (n_gkind j).toInt ≤ 3) ∧ (∀ j : Nat, 0 ≤ (n_gways j).toInt ∧ (n_gways j).toInt ≤ 3) ∧ (∀ j : Nat, (-1) ≤ (n_gheld j).toInt ∧ (n_gheld j).toInt ≤ 2) ∧ ((on : Int32).toInt = (n_nodes : Int32).toInt + 1) ∧ (n_gkind = upd n_fkind (n_nodes : Int32).toNatClampNeg p0) ∧ (n_gname = upd n_fname (n_nodes : Int32).toNatClampNeg p1) ∧ (n_gpay = upd n_fpay (n_nodes : Int32).toNatClampNeg p2) ∧ (n_gways = upd n_fways (n_nodes : Int32).toNatClampNeg 0) ∧ (n_gheld = upd n_fheld (n_nodes : Int32).toNatClampNeg (-1)) ∧ va_P D vwCl [(wO2 n on n_kind n_pay n_name n_ways n_held n_targets n_weights), (wI g n_kind 0 12 n_gkind), (wI g n_pay 0 12 n_gpay), (wI g n_name 0 12 n_gname), (wI g n_ways 0 12 n_gways), (wI g n_held 0 12 n_gheld)] t.heap ∧ va_D (va_A [(wO2 n n_nodes n_kind n_pay n_name n_ways n_held n_targets n_weights), (wI g n_kind 0 12 n_fkind), (wI g n_pay 0 12 n_fpay), (wI g n_name 0 12 n_fname), (wI g n_ways 0 12 n_fways), (wI g n_held 0 12 n_fheld)] sz) [(wO2 n on n_kind n_pay n_name n_ways n_held n_targets n_weights), (wI g n_kind 0 12 n_gkind), (wI g n_pay 0 12 n_gpay), (wI g n_name 0 12 n_gname), (wI g n_ways 0 12 n_gways), (wI g n_held 0 12 n_gheld)]) (va_A [(wO2 n n_nodes n_kind n_pay n_name n_ways n_held n_targets n_weights), (wI g n_kind 0 12 n_fkind), (wI g n_pay 0 12 n_fpay), (wI g n_name 0 12 n_fname), (wI g n_ways 0 12 n_fways), (wI g n_held 0 12 n_fheld)] sz)) 0 0 (va_A [(wO2 n n_nodes n_kind n_pay n_name n_ways n_held n_targets n_weights), (wI g n_kind 0 12 n_fkind), (wI g n_pay 0 12 n_fpay), (wI g n_name 0 12 n_fname), (wI g n_ways 0 12 n_fways), (wI g n_held 0 12 n_fheld)] sz) := by
  refine Met.ofW (cc := cX2_addNode) (maxL := 4) (ret := none) (by decide) rfl ?_
  intro p e s m args below meth c s₁ B hml hv
  obtain ⟨ha, hsz, hP, hK, hD0⟩ := hv
  have hx := B.exec
  have hb := B.bytes
  have hr := B.returns
  have hts0 := atoms_spec (ws := (.code yX2_addNode cX2_addNode 4 none :: wsL_law)) B.pre
  have hts : ∀ w ∈ wsL_law, w.before args s = true := fun w h => hts0 w (List.mem_cons_of_mem _ h)
  have hown : s.vm.findClass RX2 = some m.cls := findClass_of_methodNamed B.named
  have hlocks := B.notSynchronized
  subst hsz
  have hD := hD0.self (sz := s.heap.size)
  generalize hAe : va_A [(wO2 n n_nodes n_kind n_pay n_name n_ways n_held n_targets n_weights), (wI g n_kind 0 12 n_fkind), (wI g n_pay 0 12 n_fpay), (wI g n_name 0 12 n_fname), (wI g n_ways 0 12 n_fways), (wI g n_held 0 12 n_fheld)] s.heap.size = A at hD ⊢
  have hA : ∀ q : Nat, s.heap.size ≤ q → A q := fun q h => by rw [← hAe]; exact Or.inr h
  have hS : va_S A s.heap s.heap [] := va_S.rf
  have hP : va_P D vwCl [(wO2 n n_nodes n_kind n_pay n_name n_ways n_held n_targets n_weights), (wI g n_kind 0 12 n_fkind), (wI g n_pay 0 12 n_fpay), (wI g n_name 0 12 n_fname), (wI g n_ways 0 12 n_fways), (wI g n_held 0 12 n_fheld)] s.heap := hP
  refine W.eq (g2 := entryFrame m ([.ref n, .int p0, .int p1, .int p2] : List Value).toArray 4) (by rw [ha]) ?_
  have hl := lv_entry ([.ref n, .int p0, .int p1, .int p2]) (n := 4) (Nat.le_of_ble_eq_true rfl)
  rw [lg_entry_eq]
  generalize (lg_sl ([.ref n, .int p0, .int p1, .int p2]) ++ List.replicate (4 - (lg_sl ([.ref n, .int p0, .int p1, .int p2])).length) Slot.unset).toArray = ls at hl ⊢
  have hl : lv_has ls 4 [(0, .ref n), (1, .int p0), (2, .int p1), (3, .int p2)] := hl
  refine lv_aload_n hx hb dX2_addNode_0 rfl (lv_at hl 0 rfl) ?_
  refine va_get (D := D) (ci := 2) (v := .int n_nodes) (C := RX2) (T := TX2) (N := 8) hx hb hts inlX2 hown hK hP 0 rfl rfl 0 (by decide) (hts (Cond.fieldLink RX2 33 "ChanceRings$Net" "nodes" "I") qw_313) (fun _ h9 => h9) rfl dX2_addNode_1 ?_
  refine lv_bipush (v := 12) hx hb dX2_addNode_4 (by decide) ?_
  refine lv_icmp_ge (tgt := 69) hx hb dX2_addNode_6 (by decide) (fun h9 => (nr_x_le (⟨by decide, by decide⟩ : 12 ≤ (12 : Int32).toInt ∧ (12 : Int32).toInt ≤ 12) h_n_nodes (Int32.le_iff_toInt_le.mp h9) (by decide)).elim) (fun c_59651 => ?_)
  have kk_12 := tk_12
  have c_59651_i := Int32.lt_iff_toInt_lt.mp (Int32.not_le.mp c_59651)
  refine lv_aload_n hx hb dX2_addNode_9 rfl (lv_at hl 0 rfl) ?_
  refine va_get (D := D) (ci := 2) (v := .ref n_kind) (C := RX2) (T := TX2) (N := 8) hx hb hts inlX2 hown hK hP 0 rfl rfl 1 (by decide) (hts (Cond.fieldLink RX2 9 "ChanceRings$Net" "kind" "[I") qw_316) (fun _ h9 => h9) rfl dX2_addNode_10 ?_
  refine lv_aload_n hx hb dX2_addNode_13 rfl (lv_at hl 0 rfl) ?_
  refine va_get (D := D) (ci := 2) (v := .int n_nodes) (C := RX2) (T := TX2) (N := 8) hx hb hts inlX2 hown hK hP 0 rfl rfl 0 (by decide) (hts (Cond.fieldLink RX2 33 "ChanceRings$Net" "nodes" "I") qw_313) (fun _ h9 => h9) rfl dX2_addNode_14 ?_
  refine lv_iload_n hx hb dX2_addNode_17 rfl (lv_at hl 1 rfl) ?_
  refine va_iast hx hb hK hP hD hS 1 0 rfl rfl (tr_in h_n_nodes (by decide) (by decide)) dX2_addNode_18 (fun H locs hP hD hS => ?_)
  obtain ⟨f_59652, f_59652_e, h_f_59652, hP, hD⟩ : ∃ FX : Nat → Int32, FX = (upd n_fkind (n_nodes : Int32).toNatClampNeg p0) ∧ (∀ j : Nat, 0 ≤ (FX j).toInt ∧ (FX j).toInt ≤ 3) ∧ va_P D vwCl [(wO2 n n_nodes n_kind n_pay n_name n_ways n_held n_targets n_weights), (wI g n_kind 0 12 FX), (wI g n_pay 0 12 n_fpay), (wI g n_name 0 12 n_fname), (wI g n_ways 0 12 n_fways), (wI g n_held 0 12 n_fheld)] H ∧ va_D A [(wO2 n n_nodes n_kind n_pay n_name n_ways n_held n_targets n_weights), (wI g n_kind 0 12 FX), (wI g n_pay 0 12 n_fpay), (wI g n_name 0 12 n_fname), (wI g n_ways 0 12 n_fways), (wI g n_held 0 12 n_fheld)] := ⟨_, rfl, tr_upd h_n_fkind (tr_w h_p0 (by decide) (by decide)), hP, hD⟩
  have hP : va_P D vwCl [(wO2 n n_nodes n_kind n_pay n_name n_ways n_held n_targets n_weights), (wI g n_kind 0 12 f_59652), (wI g n_pay 0 12 n_fpay), (wI g n_name 0 12 n_fname), (wI g n_ways 0 12 n_fways), (wI g n_held 0 12 n_fheld)] H := hP
  have hD : va_D A [(wO2 n n_nodes n_kind n_pay n_name n_ways n_held n_targets n_weights), (wI g n_kind 0 12 f_59652), (wI g n_pay 0 12 n_fpay), (wI g n_name 0 12 n_fname), (wI g n_ways 0 12 n_fways), (wI g n_held 0 12 n_fheld)] := hD
  refine lv_aload_n hx hb dX2_addNode_19 rfl (lv_at hl 0 rfl) ?_
  refine va_get (D := D) (ci := 2) (v := .ref n_name) (C := RX2) (T := TX2) (N := 8) hx hb hts inlX2 hown hK hP 0 rfl rfl 3 (by decide) (hts (Cond.fieldLink RX2 18 "ChanceRings$Net" "name" "[I") qw_333) (fun _ h9 => h9) rfl dX2_addNode_20 ?_
  refine lv_aload_n hx hb dX2_addNode_23 rfl (lv_at hl 0 rfl) ?_
  refine va_get (D := D) (ci := 2) (v := .int n_nodes) (C := RX2) (T := TX2) (N := 8) hx hb hts inlX2 hown hK hP 0 rfl rfl 0 (by decide) (hts (Cond.fieldLink RX2 33 "ChanceRings$Net" "nodes" "I") qw_313) (fun _ h9 => h9) rfl dX2_addNode_24 ?_
  refine lv_iload_n hx hb dX2_addNode_27 rfl (lv_at hl 2 rfl) ?_
  refine va_iast hx hb hK hP hD hS 3 0 rfl rfl (tr_in h_n_nodes (by decide) (by decide)) dX2_addNode_28 (fun H locs hP hD hS => ?_)
  obtain ⟨f_59653, f_59653_e, hP, hD⟩ : ∃ FX : Nat → Int32, FX = (upd n_fname (n_nodes : Int32).toNatClampNeg p1) ∧ va_P D vwCl [(wO2 n n_nodes n_kind n_pay n_name n_ways n_held n_targets n_weights), (wI g n_kind 0 12 f_59652), (wI g n_pay 0 12 n_fpay), (wI g n_name 0 12 FX), (wI g n_ways 0 12 n_fways), (wI g n_held 0 12 n_fheld)] H ∧ va_D A [(wO2 n n_nodes n_kind n_pay n_name n_ways n_held n_targets n_weights), (wI g n_kind 0 12 f_59652), (wI g n_pay 0 12 n_fpay), (wI g n_name 0 12 FX), (wI g n_ways 0 12 n_fways), (wI g n_held 0 12 n_fheld)] := ⟨_, rfl, hP, hD⟩
  have hP : va_P D vwCl [(wO2 n n_nodes n_kind n_pay n_name n_ways n_held n_targets n_weights), (wI g n_kind 0 12 f_59652), (wI g n_pay 0 12 n_fpay), (wI g n_name 0 12 f_59653), (wI g n_ways 0 12 n_fways), (wI g n_held 0 12 n_fheld)] H := hP
  have hD : va_D A [(wO2 n n_nodes n_kind n_pay n_name n_ways n_held n_targets n_weights), (wI g n_kind 0 12 f_59652), (wI g n_pay 0 12 n_fpay), (wI g n_name 0 12 f_59653), (wI g n_ways 0 12 n_fways), (wI g n_held 0 12 n_fheld)] := hD
  refine lv_aload_n hx hb dX2_addNode_29 rfl (lv_at hl 0 rfl) ?_
  refine va_get (D := D) (ci := 2) (v := .ref n_pay) (C := RX2) (T := TX2) (N := 8) hx hb hts inlX2 hown hK hP 0 rfl rfl 2 (by decide) (hts (Cond.fieldLink RX2 15 "ChanceRings$Net" "pay" "[I") qw_317) (fun _ h9 => h9) rfl dX2_addNode_30 ?_
  refine lv_aload_n hx hb dX2_addNode_33 rfl (lv_at hl 0 rfl) ?_
  refine va_get (D := D) (ci := 2) (v := .int n_nodes) (C := RX2) (T := TX2) (N := 8) hx hb hts inlX2 hown hK hP 0 rfl rfl 0 (by decide) (hts (Cond.fieldLink RX2 33 "ChanceRings$Net" "nodes" "I") qw_313) (fun _ h9 => h9) rfl dX2_addNode_34 ?_
  refine lv_iload_n hx hb dX2_addNode_37 rfl (lv_at hl 3 rfl) ?_
  refine va_iast hx hb hK hP hD hS 2 0 rfl rfl (tr_in h_n_nodes (by decide) (by decide)) dX2_addNode_38 (fun H locs hP hD hS => ?_)
  obtain ⟨f_59654, f_59654_e, hP, hD⟩ : ∃ FX : Nat → Int32, FX = (upd n_fpay (n_nodes : Int32).toNatClampNeg p2) ∧ va_P D vwCl [(wO2 n n_nodes n_kind n_pay n_name n_ways n_held n_targets n_weights), (wI g n_kind 0 12 f_59652), (wI g n_pay 0 12 FX), (wI g n_name 0 12 f_59653), (wI g n_ways 0 12 n_fways), (wI g n_held 0 12 n_fheld)] H ∧ va_D A [(wO2 n n_nodes n_kind n_pay n_name n_ways n_held n_targets n_weights), (wI g n_kind 0 12 f_59652), (wI g n_pay 0 12 FX), (wI g n_name 0 12 f_59653), (wI g n_ways 0 12 n_fways), (wI g n_held 0 12 n_fheld)] := ⟨_, rfl, hP, hD⟩
  have hP : va_P D vwCl [(wO2 n n_nodes n_kind n_pay n_name n_ways n_held n_targets n_weights), (wI g n_kind 0 12 f_59652), (wI g n_pay 0 12 f_59654), (wI g n_name 0 12 f_59653), (wI g n_ways 0 12 n_fways), (wI g n_held 0 12 n_fheld)] H := hP
  have hD : va_D A [(wO2 n n_nodes n_kind n_pay n_name n_ways n_held n_targets n_weights), (wI g n_kind 0 12 f_59652), (wI g n_pay 0 12 f_59654), (wI g n_name 0 12 f_59653), (wI g n_ways 0 12 n_fways), (wI g n_held 0 12 n_fheld)] := hD
  refine lv_aload_n hx hb dX2_addNode_39 rfl (lv_at hl 0 rfl) ?_
  refine va_get (D := D) (ci := 2) (v := .ref n_ways) (C := RX2) (T := TX2) (N := 8) hx hb hts inlX2 hown hK hP 0 rfl rfl 4 (by decide) (hts (Cond.fieldLink RX2 21 "ChanceRings$Net" "ways" "[I") qw_318) (fun _ h9 => h9) rfl dX2_addNode_40 ?_
  refine lv_aload_n hx hb dX2_addNode_43 rfl (lv_at hl 0 rfl) ?_
  refine va_get (D := D) (ci := 2) (v := .int n_nodes) (C := RX2) (T := TX2) (N := 8) hx hb hts inlX2 hown hK hP 0 rfl rfl 0 (by decide) (hts (Cond.fieldLink RX2 33 "ChanceRings$Net" "nodes" "I") qw_313) (fun _ h9 => h9) rfl dX2_addNode_44 ?_
  refine lv_iconst (v := 0) hx hb dX2_addNode_47 (by decide) ?_
  refine va_iast hx hb hK hP hD hS 4 0 rfl rfl (tr_in h_n_nodes (by decide) (by decide)) dX2_addNode_48 (fun H locs hP hD hS => ?_)
  obtain ⟨f_59655, f_59655_e, h_f_59655, hP, hD⟩ : ∃ FX : Nat → Int32, FX = (upd n_fways (n_nodes : Int32).toNatClampNeg 0) ∧ (∀ j : Nat, 0 ≤ (FX j).toInt ∧ (FX j).toInt ≤ 3) ∧ va_P D vwCl [(wO2 n n_nodes n_kind n_pay n_name n_ways n_held n_targets n_weights), (wI g n_kind 0 12 f_59652), (wI g n_pay 0 12 f_59654), (wI g n_name 0 12 f_59653), (wI g n_ways 0 12 FX), (wI g n_held 0 12 n_fheld)] H ∧ va_D A [(wO2 n n_nodes n_kind n_pay n_name n_ways n_held n_targets n_weights), (wI g n_kind 0 12 f_59652), (wI g n_pay 0 12 f_59654), (wI g n_name 0 12 f_59653), (wI g n_ways 0 12 FX), (wI g n_held 0 12 n_fheld)] := ⟨_, rfl, tr_upd h_n_fways (⟨by decide, by decide⟩ : 0 ≤ (0 : Int32).toInt ∧ (0 : Int32).toInt ≤ 3), hP, hD⟩
  have hP : va_P D vwCl [(wO2 n n_nodes n_kind n_pay n_name n_ways n_held n_targets n_weights), (wI g n_kind 0 12 f_59652), (wI g n_pay 0 12 f_59654), (wI g n_name 0 12 f_59653), (wI g n_ways 0 12 f_59655), (wI g n_held 0 12 n_fheld)] H := hP
  have hD : va_D A [(wO2 n n_nodes n_kind n_pay n_name n_ways n_held n_targets n_weights), (wI g n_kind 0 12 f_59652), (wI g n_pay 0 12 f_59654), (wI g n_name 0 12 f_59653), (wI g n_ways 0 12 f_59655), (wI g n_held 0 12 n_fheld)] := hD
  refine lv_aload_n hx hb dX2_addNode_49 rfl (lv_at hl 0 rfl) ?_
  refine va_get (D := D) (ci := 2) (v := .ref n_held) (C := RX2) (T := TX2) (N := 8) hx hb hts inlX2 hown hK hP 0 rfl rfl 5 (by decide) (hts (Cond.fieldLink RX2 24 "ChanceRings$Net" "held" "[I") qw_314) (fun _ h9 => h9) rfl dX2_addNode_50 ?_
  refine lv_aload_n hx hb dX2_addNode_53 rfl (lv_at hl 0 rfl) ?_
  refine va_get (D := D) (ci := 2) (v := .int n_nodes) (C := RX2) (T := TX2) (N := 8) hx hb hts inlX2 hown hK hP 0 rfl rfl 0 (by decide) (hts (Cond.fieldLink RX2 33 "ChanceRings$Net" "nodes" "I") qw_313) (fun _ h9 => h9) rfl dX2_addNode_54 ?_
  refine lv_iconst (v := (-1)) hx hb dX2_addNode_57 (by decide) ?_
  refine va_iast hx hb hK hP hD hS 5 0 rfl rfl (tr_in h_n_nodes (by decide) (by decide)) dX2_addNode_58 (fun H locs hP hD hS => ?_)
  obtain ⟨f_59656, f_59656_e, h_f_59656, hP, hD⟩ : ∃ FX : Nat → Int32, FX = (upd n_fheld (n_nodes : Int32).toNatClampNeg (-1)) ∧ (∀ j : Nat, (-1) ≤ (FX j).toInt ∧ (FX j).toInt ≤ 2) ∧ va_P D vwCl [(wO2 n n_nodes n_kind n_pay n_name n_ways n_held n_targets n_weights), (wI g n_kind 0 12 f_59652), (wI g n_pay 0 12 f_59654), (wI g n_name 0 12 f_59653), (wI g n_ways 0 12 f_59655), (wI g n_held 0 12 FX)] H ∧ va_D A [(wO2 n n_nodes n_kind n_pay n_name n_ways n_held n_targets n_weights), (wI g n_kind 0 12 f_59652), (wI g n_pay 0 12 f_59654), (wI g n_name 0 12 f_59653), (wI g n_ways 0 12 f_59655), (wI g n_held 0 12 FX)] := ⟨_, rfl, tr_upd h_n_fheld (⟨by decide, by decide⟩ : (-1) ≤ ((-1) : Int32).toInt ∧ ((-1) : Int32).toInt ≤ 2), hP, hD⟩
  have hP : va_P D vwCl [(wO2 n n_nodes n_kind n_pay n_name n_ways n_held n_targets n_weights), (wI g n_kind 0 12 f_59652), (wI g n_pay 0 12 f_59654), (wI g n_name 0 12 f_59653), (wI g n_ways 0 12 f_59655), (wI g n_held 0 12 f_59656)] H := hP
  have hD : va_D A [(wO2 n n_nodes n_kind n_pay n_name n_ways n_held n_targets n_weights), (wI g n_kind 0 12 f_59652), (wI g n_pay 0 12 f_59654), (wI g n_name 0 12 f_59653), (wI g n_ways 0 12 f_59655), (wI g n_held 0 12 f_59656)] := hD
  refine lv_aload_n hx hb dX2_addNode_59 rfl (lv_at hl 0 rfl) ?_
  refine lv_dup hx hb dX2_addNode_60 rfl ?_
  refine va_get (D := D) (ci := 2) (v := .int n_nodes) (C := RX2) (T := TX2) (N := 8) hx hb hts inlX2 hown hK hP 0 rfl rfl 0 (by decide) (hts (Cond.fieldLink RX2 33 "ChanceRings$Net" "nodes" "I") qw_313) (fun _ h9 => h9) rfl dX2_addNode_61 ?_
  refine lv_iconst (v := 1) hx hb dX2_addNode_64 (by decide) ?_
  refine lv_iadd hx hb dX2_addNode_65 ?_
  refine lv_topi (fun v_59657 v_59657_e => ?_)
  have h_v_59657 : 1 ≤ (v_59657 : Int32).toInt ∧ (v_59657 : Int32).toInt ≤ 12 := by rw [v_59657_e]; exact tr_add h_n_nodes (⟨by decide, by decide⟩ : 1 ≤ (1 : Int32).toInt ∧ (1 : Int32).toInt ≤ 1) (by decide) (by decide) (by decide) (by decide)
  have q_v_59657 : v_59657.toInt = n_nodes.toInt + 1 := by rw [v_59657_e]; exact tr_addE h_n_nodes (⟨by decide, by decide⟩ : 1 ≤ (1 : Int32).toInt ∧ (1 : Int32).toInt ≤ 1) (by decide) (by decide)
  refine va_put (D := D) (ci := 2) (v := .int v_59657) (ty := .int) (C := RX2) (T := TX2) (N := 8) hx hb hts inlX2 tyX2 tyX2_ok nmX2 hown hK hP hD hS 0 rfl rfl 0 (by decide) (hts (Cond.fieldLink RX2 33 "ChanceRings$Net" "nodes" "I") qw_313) (fun _ h9 => h9) rfl (by decide +kernel) rfl rfl (Nat.le_of_ble_eq_true rfl) dX2_addNode_66 (fun H locs hP hD hS => ?_)
  have hP : va_P D vwCl [(wO2 n v_59657 n_kind n_pay n_name n_ways n_held n_targets n_weights), (wI g n_kind 0 12 f_59652), (wI g n_pay 0 12 f_59654), (wI g n_name 0 12 f_59653), (wI g n_ways 0 12 f_59655), (wI g n_held 0 12 f_59656)] H := hP
  have hD : va_D A [(wO2 n v_59657 n_kind n_pay n_name n_ways n_held n_targets n_weights), (wI g n_kind 0 12 f_59652), (wI g n_pay 0 12 f_59654), (wI g n_name 0 12 f_59653), (wI g n_ways 0 12 f_59655), (wI g n_held 0 12 f_59656)] := hD
  have hP9 := hP.sub (ws' := [(wO2 n v_59657 n_kind n_pay n_name n_ways n_held n_targets n_weights), (wI g n_kind 0 12 f_59652), (wI g n_pay 0 12 f_59654), (wI g n_name 0 12 f_59653), (wI g n_ways 0 12 f_59655), (wI g n_held 0 12 f_59656)]) [0, 1, 2, 3, 4, 5] rfl
  have hD9 := hD.sub (ws' := [(wO2 n v_59657 n_kind n_pay n_name n_ways n_held n_targets n_weights), (wI g n_kind 0 12 f_59652), (wI g n_pay 0 12 f_59654), (wI g n_name 0 12 f_59653), (wI g n_ways 0 12 f_59655), (wI g n_held 0 12 f_59656)]) [0, 1, 2, 3, 4, 5] (by decide) rfl
  exact W.vret hx hb hr (fun t ht hW => ⟨⟨(), rfl, trivial, v_59657, f_59652, f_59654, f_59653, f_59655, f_59656, (tr_w h_v_59657 (by decide) (by decide)), (tr_wa h_f_59652 (by decide) (by decide)), (tr_wa h_f_59655 (by decide) (by decide)), (tr_wa h_f_59656 (by decide) (by decide)), (by have z_0 := tk_0; have z_1 := tk_1; omega), f_59652_e, f_59653_e, f_59654_e, f_59655_e, f_59656_e, by rw [ht]; exact hP9, hD9⟩, hS.F ht⟩) hS.2.2 dX2_addNode_69
set_option maxHeartbeats 4000000 in
set_option maxRecDepth 100000 in
theorem c_X2_addWay (l : Launch) (D : va_G) (g : Nat → ClassId) (sz : Nat) (n : Nat) (p0 : Int32) (p1 : Int32) (p2 : Int32) (n_nodes : Int32) (n_kind : Nat) (n_pay : Nat) (n_name : Nat) (n_ways : Nat) (n_held : Nat) (n_targets : Nat) (n_weights : Nat) (n_fways : Nat → Int32) (n_ftargets : Nat → Int32) (n_fweights : Nat → Int32) (h_p0 : 0 ≤ (p0 : Int32).toInt ∧ (p0 : Int32).toInt ≤ 11) (h_p1 : 0 ≤ (p1 : Int32).toInt ∧ (p1 : Int32).toInt ≤ 11) (h_n_nodes : 0 ≤ (n_nodes : Int32).toInt ∧ (n_nodes : Int32).toInt ≤ 12) (h_n_fways : ∀ j : Nat, 0 ≤ (n_fways j).toInt ∧ (n_fways j).toInt ≤ 3) (h_n_ftargets : ∀ j : Nat, 0 ≤ (n_ftargets j).toInt ∧ (n_ftargets j).toInt ≤ 11) (hw3 : (n_fways (p0 : Int32).toInt.toNat).toInt < 3) : Met l yX2_addWay (.code yX2_addWay cX2_addWay 4 none :: wsL_law) ({ frames := 0, cells := 0, slots := 0, locals := 0 }) (va_Pc [.ref n, .int p0, .int p1, .int p2] (fun U => U.heap.size = sz ∧ va_P D vwCl [(wO2 n n_nodes n_kind n_pay n_name n_ways n_held n_targets n_weights), (wI g n_ways 0 12 n_fways), (wI g n_targets 0 36 n_ftargets), (wI g n_weights 0 36 n_fweights)] U.heap ∧ va_K D vwCl (TY g) U ∧ va_D (fun _ => True) [(wO2 n n_nodes n_kind n_pay n_name n_ways n_held n_targets n_weights), (wI g n_ways 0 12 n_fways), (wI g n_targets 0 36 n_ftargets), (wI g n_weights 0 36 n_fweights)])) (va_Qv (fun (_ : Unit) => True) (fun _ t => ∃ n_gways : Nat → Int32, ∃ n_gtargets : Nat → Int32, ∃ n_gweights : Nat → Int32, ∃ own : Int32, (∀ j : Nat, 0 ≤ (n_gways j).toInt ∧ (n_gways j).toInt ≤ 3) ∧ (∀ j : Nat, 0 ≤ (n_gtargets j).toInt ∧ (n_gtargets j).toInt ≤ 11) ∧ (n_gtargets = upd n_ftargets (3 * (p0 : Int32).toInt.toNat + (n_fways (p0 : Int32).toInt.toNat).toInt.toNat) p1) ∧ (n_gweights = upd n_fweights (3 * (p0 : Int32).toInt.toNat + (n_fways (p0 : Int32).toInt.toNat).toInt.toNat) p2) ∧ (n_gways = upd n_fways (p0 : Int32).toInt.toNat own) ∧ ((own : Int32).toInt = (n_fways (p0 : Int32).toInt.toNat).toInt + 1) ∧ va_P D vwCl [(wO2 n n_nodes n_kind n_pay n_name n_ways n_held n_targets n_weights), (wI g n_ways 0 12 n_gways), (wI g n_targets 0 36 n_gtargets), (wI g n_weights 0 36 n_gweights)] t.heap ∧ va_D (va_A [(wO2 n n_nodes n_kind n_pay n_name n_ways n_held n_targets n_weights), (wI g n_ways 0 12 n_fways), (wI g n_targets 0 36 n_ftargets), (wI g n_weights 0 36 n_fweights)] sz) [(wO2 n n_nodes n_kind n_pay n_name n_ways n_held n_targets n_weights), (wI g n_ways 0 12 n_gways), (wI g n_targets 0 36 n_gtargets), (wI g n_weights 0 36 n_gweights)]) (va_A [(wO2 n n_nodes n_kind n_pay n_name n_ways n_held n_targets n_weights), (wI g n_ways 0 12 n_fways), (wI g n_targets 0 36 n_ftargets), (wI g n_weights 0 36 n_fweights)] sz)) 0 0 (va_A [(wO2 n n_nodes n_kind n_pay n_name n_ways n_held n_targets n_weights), (wI g n_ways 0 12 n_fways), (wI g n_targets 0 36 n_ftargets), (wI g n_weights 0 36 n_fweights)] sz) := by
  refine Met.ofW (cc := cX2_addWay) (maxL := 4) (ret := none) (by decide) rfl ?_
  intro p e s m args below meth c s₁ B hml hv
  obtain ⟨ha, hsz, hP, hK, hD0⟩ := hv
  have hx := B.exec
  have hb := B.bytes
  have hr := B.returns
  have hts0 := atoms_spec (ws := (.code yX2_addWay cX2_addWay 4 none :: wsL_law)) B.pre
  have hts : ∀ w ∈ wsL_law, w.before args s = true := fun w h => hts0 w (List.mem_cons_of_mem _ h)
  have hown : s.vm.findClass RX2 = some m.cls := findClass_of_methodNamed B.named
  have hlocks := B.notSynchronized
  subst hsz
  have hD := hD0.self (sz := s.heap.size)
  generalize hAe : va_A [(wO2 n n_nodes n_kind n_pay n_name n_ways n_held n_targets n_weights), (wI g n_ways 0 12 n_fways), (wI g n_targets 0 36 n_ftargets), (wI g n_weights 0 36 n_fweights)] s.heap.size = A at hD ⊢
  have hA : ∀ q : Nat, s.heap.size ≤ q → A q := fun q h => by rw [← hAe]; exact Or.inr h
  have hS : va_S A s.heap s.heap [] := va_S.rf
  have hP : va_P D vwCl [(wO2 n n_nodes n_kind n_pay n_name n_ways n_held n_targets n_weights), (wI g n_ways 0 12 n_fways), (wI g n_targets 0 36 n_ftargets), (wI g n_weights 0 36 n_fweights)] s.heap := hP
  refine W.eq (g2 := entryFrame m ([.ref n, .int p0, .int p1, .int p2] : List Value).toArray 4) (by rw [ha]) ?_
  have hl := lv_entry ([.ref n, .int p0, .int p1, .int p2]) (n := 4) (Nat.le_of_ble_eq_true rfl)
  rw [lg_entry_eq]
  generalize (lg_sl ([.ref n, .int p0, .int p1, .int p2]) ++ List.replicate (4 - (lg_sl ([.ref n, .int p0, .int p1, .int p2])).length) Slot.unset).toArray = ls at hl ⊢
  have hl : lv_has ls 4 [(0, .ref n), (1, .int p0), (2, .int p1), (3, .int p2)] := hl
  refine lv_aload_n hx hb dX2_addWay_0 rfl (lv_at hl 0 rfl) ?_
  refine va_get (D := D) (ci := 2) (v := .ref n_ways) (C := RX2) (T := TX2) (N := 8) hx hb hts inlX2 hown hK hP 0 rfl rfl 4 (by decide) (hts (Cond.fieldLink RX2 21 "ChanceRings$Net" "ways" "[I") qw_318) (fun _ h9 => h9) rfl dX2_addWay_1 ?_
  refine lv_iload_n hx hb dX2_addWay_4 rfl (lv_at hl 1 rfl) ?_
  refine va_iald hx hb hK hP 1 0 rfl rfl (tr_in h_p0 (by decide) (by decide)) dX2_addWay_5 ?_
  refine lv_topi (fun v_59658 v_59658_e => ?_)
  have h_v_59658 : 0 ≤ (v_59658 : Int32).toInt ∧ (v_59658 : Int32).toInt ≤ 3 := by rw [v_59658_e]; exact h_n_fways _
  have g_v_59658 : v_59658 = n_fways (p0.toInt.toNat) := v_59658_e.trans (congrArg n_fways rfl)
  have gi_v_59658 := congrArg Int32.toInt g_v_59658
  have h_59659 : 0 ≤ (v_59658 : Int32).toInt ∧ (v_59658 : Int32).toInt ≤ 2 := by have q9 := hw3; have q8 := gi_v_59658; omega
  refine lv_iconst (v := 3) hx hb dX2_addWay_6 (by decide) ?_
  refine lv_icmp_ge (tgt := 52) hx hb dX2_addWay_7 (by decide) (fun h9 => (nr_x_le (⟨by decide, by decide⟩ : 3 ≤ (3 : Int32).toInt ∧ (3 : Int32).toInt ≤ 3) h_59659 (Int32.le_iff_toInt_le.mp h9) (by decide)).elim) (fun c_59660 => ?_)
  have kk_3 := tk_3
  have c_59660_i := Int32.lt_iff_toInt_lt.mp (Int32.not_le.mp c_59660)
  refine lv_aload_n hx hb dX2_addWay_10 rfl (lv_at hl 0 rfl) ?_
  refine va_get (D := D) (ci := 2) (v := .ref n_targets) (C := RX2) (T := TX2) (N := 8) hx hb hts inlX2 hown hK hP 0 rfl rfl 6 (by decide) (hts (Cond.fieldLink RX2 27 "ChanceRings$Net" "targets" "[I") qw_315) (fun _ h9 => h9) rfl dX2_addWay_11 ?_
  refine lv_iload_n hx hb dX2_addWay_14 rfl (lv_at hl 1 rfl) ?_
  refine lv_iconst (v := 3) hx hb dX2_addWay_15 (by decide) ?_
  refine lv_imul hx hb dX2_addWay_16 ?_
  refine lv_topi (fun v_59661 v_59661_e => ?_)
  have h_v_59661 : 0 ≤ (v_59661 : Int32).toInt ∧ (v_59661 : Int32).toInt ≤ 33 := by rw [v_59661_e]; exact tr_mul h_p0 (⟨by decide, by decide⟩ : 3 ≤ (3 : Int32).toInt ∧ (3 : Int32).toInt ≤ 3) (by decide) (by decide) (by decide) (by decide)
  have q_v_59661 : v_59661.toInt = p0.toInt * 3 := by rw [v_59661_e]; exact (tr_mulX h_p0 (⟨by decide, by decide⟩ : 3 ≤ (3 : Int32).toInt ∧ (3 : Int32).toInt ≤ 3) (by decide) (by decide)).trans (by rw [tk_3])
  refine lv_aload_n hx hb dX2_addWay_17 rfl (lv_at hl 0 rfl) ?_
  refine va_get (D := D) (ci := 2) (v := .ref n_ways) (C := RX2) (T := TX2) (N := 8) hx hb hts inlX2 hown hK hP 0 rfl rfl 4 (by decide) (hts (Cond.fieldLink RX2 21 "ChanceRings$Net" "ways" "[I") qw_318) (fun _ h9 => h9) rfl dX2_addWay_18 ?_
  refine lv_iload_n hx hb dX2_addWay_21 rfl (lv_at hl 1 rfl) ?_
  refine va_iald hx hb hK hP 1 0 rfl rfl (tr_in h_p0 (by decide) (by decide)) dX2_addWay_22 ?_
  refine tz_i (y := v_59658) ((congrArg n_fways rfl).trans g_v_59658.symm) ?_
  refine lv_iadd hx hb dX2_addWay_23 ?_
  refine lv_topi (fun v_59662 v_59662_e => ?_)
  have h_v_59662 : 0 ≤ (v_59662 : Int32).toInt ∧ (v_59662 : Int32).toInt ≤ 35 := by rw [v_59662_e]; exact tr_add h_v_59661 h_59659 (by decide) (by decide) (by decide) (by decide)
  have q_v_59662 : v_59662.toInt = v_59661.toInt + v_59658.toInt := by rw [v_59662_e]; exact tr_addX h_v_59661 h_59659 (by decide) (by decide)
  refine lv_iload_n hx hb dX2_addWay_24 rfl (lv_at hl 2 rfl) ?_
  refine va_iast hx hb hK hP hD hS 2 0 rfl rfl (tr_in h_v_59662 (by decide) (by decide)) dX2_addWay_25 (fun H locs hP hD hS => ?_)
  obtain ⟨f_59663, f_59663_e, h_f_59663, hP, hD⟩ : ∃ FX : Nat → Int32, FX = (upd n_ftargets (v_59662 : Int32).toNatClampNeg p1) ∧ (∀ j : Nat, 0 ≤ (FX j).toInt ∧ (FX j).toInt ≤ 11) ∧ va_P D vwCl [(wO2 n n_nodes n_kind n_pay n_name n_ways n_held n_targets n_weights), (wI g n_ways 0 12 n_fways), (wI g n_targets 0 36 FX), (wI g n_weights 0 36 n_fweights)] H ∧ va_D A [(wO2 n n_nodes n_kind n_pay n_name n_ways n_held n_targets n_weights), (wI g n_ways 0 12 n_fways), (wI g n_targets 0 36 FX), (wI g n_weights 0 36 n_fweights)] := ⟨_, rfl, tr_upd h_n_ftargets (tr_w h_p1 (by decide) (by decide)), hP, hD⟩
  have hP : va_P D vwCl [(wO2 n n_nodes n_kind n_pay n_name n_ways n_held n_targets n_weights), (wI g n_ways 0 12 n_fways), (wI g n_targets 0 36 f_59663), (wI g n_weights 0 36 n_fweights)] H := hP
  have hD : va_D A [(wO2 n n_nodes n_kind n_pay n_name n_ways n_held n_targets n_weights), (wI g n_ways 0 12 n_fways), (wI g n_targets 0 36 f_59663), (wI g n_weights 0 36 n_fweights)] := hD
  refine lv_aload_n hx hb dX2_addWay_26 rfl (lv_at hl 0 rfl) ?_
  refine va_get (D := D) (ci := 2) (v := .ref n_weights) (C := RX2) (T := TX2) (N := 8) hx hb hts inlX2 hown hK hP 0 rfl rfl 7 (by decide) (hts (Cond.fieldLink RX2 30 "ChanceRings$Net" "weights" "[I") qw_332) (fun _ h9 => h9) rfl dX2_addWay_27 ?_
  refine lv_iload_n hx hb dX2_addWay_30 rfl (lv_at hl 1 rfl) ?_
  refine lv_iconst (v := 3) hx hb dX2_addWay_31 (by decide) ?_
  refine lv_imul hx hb dX2_addWay_32 ?_
  refine lv_topi (fun v_59664 v_59664_e => ?_)
  have h_v_59664 : 0 ≤ (v_59664 : Int32).toInt ∧ (v_59664 : Int32).toInt ≤ 33 := by rw [v_59664_e]; exact tr_mul h_p0 (⟨by decide, by decide⟩ : 3 ≤ (3 : Int32).toInt ∧ (3 : Int32).toInt ≤ 3) (by decide) (by decide) (by decide) (by decide)
  have q_v_59664 : v_59664.toInt = p0.toInt * 3 := by rw [v_59664_e]; exact (tr_mulX h_p0 (⟨by decide, by decide⟩ : 3 ≤ (3 : Int32).toInt ∧ (3 : Int32).toInt ≤ 3) (by decide) (by decide)).trans (by rw [tk_3])
  refine lv_aload_n hx hb dX2_addWay_33 rfl (lv_at hl 0 rfl) ?_
  refine va_get (D := D) (ci := 2) (v := .ref n_ways) (C := RX2) (T := TX2) (N := 8) hx hb hts inlX2 hown hK hP 0 rfl rfl 4 (by decide) (hts (Cond.fieldLink RX2 21 "ChanceRings$Net" "ways" "[I") qw_318) (fun _ h9 => h9) rfl dX2_addWay_34 ?_
  refine lv_iload_n hx hb dX2_addWay_37 rfl (lv_at hl 1 rfl) ?_
  refine va_iald hx hb hK hP 1 0 rfl rfl (tr_in h_p0 (by decide) (by decide)) dX2_addWay_38 ?_
  refine tz_i (y := v_59658) ((congrArg n_fways rfl).trans g_v_59658.symm) ?_
  refine lv_iadd hx hb dX2_addWay_39 ?_
  refine lv_topi (fun v_59665 v_59665_e => ?_)
  have h_v_59665 : 0 ≤ (v_59665 : Int32).toInt ∧ (v_59665 : Int32).toInt ≤ 35 := by rw [v_59665_e]; exact tr_add h_v_59664 h_59659 (by decide) (by decide) (by decide) (by decide)
  have q_v_59665 : v_59665.toInt = v_59664.toInt + v_59658.toInt := by rw [v_59665_e]; exact tr_addX h_v_59664 h_59659 (by decide) (by decide)
  refine lv_iload_n hx hb dX2_addWay_40 rfl (lv_at hl 3 rfl) ?_
  refine va_iast hx hb hK hP hD hS 3 0 rfl rfl (tr_in h_v_59665 (by decide) (by decide)) dX2_addWay_41 (fun H locs hP hD hS => ?_)
  obtain ⟨f_59666, f_59666_e, hP, hD⟩ : ∃ FX : Nat → Int32, FX = (upd n_fweights (v_59665 : Int32).toNatClampNeg p2) ∧ va_P D vwCl [(wO2 n n_nodes n_kind n_pay n_name n_ways n_held n_targets n_weights), (wI g n_ways 0 12 n_fways), (wI g n_targets 0 36 f_59663), (wI g n_weights 0 36 FX)] H ∧ va_D A [(wO2 n n_nodes n_kind n_pay n_name n_ways n_held n_targets n_weights), (wI g n_ways 0 12 n_fways), (wI g n_targets 0 36 f_59663), (wI g n_weights 0 36 FX)] := ⟨_, rfl, hP, hD⟩
  have hP : va_P D vwCl [(wO2 n n_nodes n_kind n_pay n_name n_ways n_held n_targets n_weights), (wI g n_ways 0 12 n_fways), (wI g n_targets 0 36 f_59663), (wI g n_weights 0 36 f_59666)] H := hP
  have hD : va_D A [(wO2 n n_nodes n_kind n_pay n_name n_ways n_held n_targets n_weights), (wI g n_ways 0 12 n_fways), (wI g n_targets 0 36 f_59663), (wI g n_weights 0 36 f_59666)] := hD
  refine lv_aload_n hx hb dX2_addWay_42 rfl (lv_at hl 0 rfl) ?_
  refine va_get (D := D) (ci := 2) (v := .ref n_ways) (C := RX2) (T := TX2) (N := 8) hx hb hts inlX2 hown hK hP 0 rfl rfl 4 (by decide) (hts (Cond.fieldLink RX2 21 "ChanceRings$Net" "ways" "[I") qw_318) (fun _ h9 => h9) rfl dX2_addWay_43 ?_
  refine lv_iload_n hx hb dX2_addWay_46 rfl (lv_at hl 1 rfl) ?_
  refine lv_dup2_11 hx hb dX2_addWay_47 rfl rfl ?_
  refine va_iald hx hb hK hP 1 0 rfl rfl (tr_in h_p0 (by decide) (by decide)) dX2_addWay_48 ?_
  refine tz_i (y := v_59658) ((congrArg n_fways rfl).trans g_v_59658.symm) ?_
  refine lv_iconst (v := 1) hx hb dX2_addWay_49 (by decide) ?_
  refine lv_iadd hx hb dX2_addWay_50 ?_
  refine lv_topi (fun v_59667 v_59667_e => ?_)
  have h_v_59667 : 1 ≤ (v_59667 : Int32).toInt ∧ (v_59667 : Int32).toInt ≤ 3 := by rw [v_59667_e]; exact tr_add h_59659 (⟨by decide, by decide⟩ : 1 ≤ (1 : Int32).toInt ∧ (1 : Int32).toInt ≤ 1) (by decide) (by decide) (by decide) (by decide)
  have q_v_59667 : v_59667.toInt = v_59658.toInt + 1 := by rw [v_59667_e]; exact tr_addE h_59659 (⟨by decide, by decide⟩ : 1 ≤ (1 : Int32).toInt ∧ (1 : Int32).toInt ≤ 1) (by decide) (by decide)
  refine va_iast hx hb hK hP hD hS 1 0 rfl rfl (tr_in h_p0 (by decide) (by decide)) dX2_addWay_51 (fun H locs hP hD hS => ?_)
  obtain ⟨f_59668, f_59668_e, h_f_59668, hP, hD⟩ : ∃ FX : Nat → Int32, FX = (upd n_fways (p0 : Int32).toNatClampNeg v_59667) ∧ (∀ j : Nat, 0 ≤ (FX j).toInt ∧ (FX j).toInt ≤ 3) ∧ va_P D vwCl [(wO2 n n_nodes n_kind n_pay n_name n_ways n_held n_targets n_weights), (wI g n_ways 0 12 FX), (wI g n_targets 0 36 f_59663), (wI g n_weights 0 36 f_59666)] H ∧ va_D A [(wO2 n n_nodes n_kind n_pay n_name n_ways n_held n_targets n_weights), (wI g n_ways 0 12 FX), (wI g n_targets 0 36 f_59663), (wI g n_weights 0 36 f_59666)] := ⟨_, rfl, tr_upd h_n_fways (tr_w h_v_59667 (by decide) (by decide)), hP, hD⟩
  have hP : va_P D vwCl [(wO2 n n_nodes n_kind n_pay n_name n_ways n_held n_targets n_weights), (wI g n_ways 0 12 f_59668), (wI g n_targets 0 36 f_59663), (wI g n_weights 0 36 f_59666)] H := hP
  have hD : va_D A [(wO2 n n_nodes n_kind n_pay n_name n_ways n_held n_targets n_weights), (wI g n_ways 0 12 f_59668), (wI g n_targets 0 36 f_59663), (wI g n_weights 0 36 f_59666)] := hD
  have hP9 := hP.sub (ws' := [(wO2 n n_nodes n_kind n_pay n_name n_ways n_held n_targets n_weights), (wI g n_ways 0 12 f_59668), (wI g n_targets 0 36 f_59663), (wI g n_weights 0 36 f_59666)]) [0, 1, 2, 3] rfl
  have hD9 := hD.sub (ws' := [(wO2 n n_nodes n_kind n_pay n_name n_ways n_held n_targets n_weights), (wI g n_ways 0 12 f_59668), (wI g n_targets 0 36 f_59663), (wI g n_weights 0 36 f_59666)]) [0, 1, 2, 3] (by decide) rfl
  exact W.vret hx hb hr (fun t ht hW => ⟨⟨(), rfl, trivial, f_59668, f_59663, f_59666, v_59667, (tr_wa h_f_59668 (by decide) (by decide)), (tr_wa h_f_59663 (by decide) (by decide)), (f_59663_e.trans (congrArg (fun k9 => upd n_ftargets k9 p1) (by show Int.toNat _ = _; have q8 := gi_v_59658; omega))), (f_59666_e.trans (congrArg (fun k9 => upd n_fweights k9 p2) (by show Int.toNat _ = _; have q8 := gi_v_59658; omega))), (f_59668_e.trans (congrArg (fun k9 => upd n_fways k9 v_59667) (by show Int.toNat _ = _; omega))), (by have q8 := gi_v_59658; omega), by rw [ht]; exact hP9, hD9⟩, hS.F ht⟩) hS.2.2 dX2_addWay_52
set_option maxHeartbeats 4000000 in
set_option maxRecDepth 100000 in
theorem c_X2_hasN (l : Launch) (D : va_G) (g : Nat → ClassId) (n : Nat) (p0 : Int32) (n_nodes : Int32) (n_kind : Nat) (n_pay : Nat) (n_name : Nat) (n_ways : Nat) (n_held : Nat) (n_targets : Nat) (n_weights : Nat) (h_n_nodes : 0 ≤ (n_nodes : Int32).toInt ∧ (n_nodes : Int32).toInt ≤ 12) : Met l yX2_has (.code yX2_has cX2_has 2 (some .boolean) :: wsL_law) ({ frames := 0, cells := 0, slots := 0, locals := 0 }) (va_Pc [.ref n, .int p0] (fun U => va_P D vwCl [(wO2 n n_nodes n_kind n_pay n_name n_ways n_held n_targets n_weights)] U.heap ∧ va_K D vwCl (TY g) U)) (vp_Si (fun r => (0 ≤ (r : Int32).toInt ∧ (r : Int32).toInt ≤ 1) ∧ (Hide (¬ (r : Int32).toInt = 0 → (0 ≤ (p0 : Int32).toInt ∧ (p0 : Int32).toInt < (n_nodes : Int32).toInt))) ∧ (Hide ((r : Int32).toInt = 0 → ¬ (0 ≤ (p0 : Int32).toInt ∧ (p0 : Int32).toInt < (n_nodes : Int32).toInt))))) 0 0 (fun _ => False) := by
  refine Met.ofW (cc := cX2_has) (maxL := 2) (ret := (some .boolean)) (by decide) rfl ?_
  intro p e s m args below meth c s₁ B hml hv
  obtain ⟨ha, hP, hK⟩ := hv
  have hx := B.exec
  have hb := B.bytes
  have hr := B.returns
  have hts0 := atoms_spec (ws := (.code yX2_has cX2_has 2 (some .boolean) :: wsL_law)) B.pre
  have hts : ∀ w ∈ wsL_law, w.before args s = true := fun w h => hts0 w (List.mem_cons_of_mem _ h)
  have hown : s.vm.findClass RX2 = some m.cls := findClass_of_methodNamed B.named
  have hlocks := B.notSynchronized
  have hP : va_P D vwCl [(wO2 n n_nodes n_kind n_pay n_name n_ways n_held n_targets n_weights)] s.heap := hP
  refine W.eq (g2 := entryFrame m ([.ref n, .int p0] : List Value).toArray 2) (by rw [ha]) ?_
  have hl := lv_entry ([.ref n, .int p0]) (n := 2) (Nat.le_of_ble_eq_true rfl)
  rw [lg_entry_eq]
  generalize (lg_sl ([.ref n, .int p0]) ++ List.replicate (2 - (lg_sl ([.ref n, .int p0])).length) Slot.unset).toArray = ls at hl ⊢
  have hl : lv_has ls 2 [(0, .ref n), (1, .int p0)] := hl
  refine lv_iload_n hx hb dX2_has_0 rfl (lv_at hl 1 rfl) ?_
  refine lv_if_lt (tgt := 16) hx hb dX2_has_1 (by decide) (fun c_59669 => ?_) (fun c_59669 => ?_)
  · skip
    have kk_0 := tk_0
    have c_59669_i := Int32.lt_iff_toInt_lt.mp c_59669
    have h_59670 : (-2147483648) ≤ (p0 : Int32).toInt ∧ (p0 : Int32).toInt ≤ (-1) := nr_lt_l (tr_any p0) (⟨by decide, by decide⟩ : 0 ≤ (0 : Int32).toInt ∧ (0 : Int32).toInt ≤ 0) c_59669_i (by decide) (by decide)
    refine lv_iconst (v := 0) hx hb dX2_has_16 (by decide) ?_
    exact W.zret (v := 0) hx hb hr (by decide) (fun t ht hW => ⟨0, rfl, ⟨(⟨by decide, by decide⟩ : 0 ≤ (0 : Int32).toInt ∧ (0 : Int32).toInt ≤ 1), (fun h9 => (by have z_0 := tk_0; have z_1 := tk_1; omega)), (fun h9 => (by have z_0 := tk_0; have z_1 := tk_1; omega))⟩, ht⟩) (fun _ h => nomatch h) dX2_has_17
  · skip
    have kk_0 := tk_0
    have c_59669_i := Int32.le_iff_toInt_le.mp (Int32.not_lt.mp c_59669)
    have h_59671 : 0 ≤ (p0 : Int32).toInt ∧ (p0 : Int32).toInt ≤ 2147483647 := nr_le_r (⟨by decide, by decide⟩ : 0 ≤ (0 : Int32).toInt ∧ (0 : Int32).toInt ≤ 0) (tr_any p0) c_59669_i (by decide) (by decide)
    refine lv_iload_n hx hb dX2_has_4 rfl (lv_at hl 1 rfl) ?_
    refine lv_aload_n hx hb dX2_has_5 rfl (lv_at hl 0 rfl) ?_
    refine va_get (D := D) (ci := 2) (v := .int n_nodes) (C := RX2) (T := TX2) (N := 8) hx hb hts inlX2 hown hK hP 0 rfl rfl 0 (by decide) (hts (Cond.fieldLink RX2 33 "ChanceRings$Net" "nodes" "I") qw_313) (fun _ h9 => h9) rfl dX2_has_6 ?_
    refine lv_icmp_ge (tgt := 16) hx hb dX2_has_9 (by decide) (fun c_59672 => ?_) (fun c_59672 => ?_)
    · skip
      have c_59672_i := Int32.le_iff_toInt_le.mp c_59672
      refine lv_iconst (v := 0) hx hb dX2_has_16 (by decide) ?_
      exact W.zret (v := 0) hx hb hr (by decide) (fun t ht hW => ⟨0, rfl, ⟨(⟨by decide, by decide⟩ : 0 ≤ (0 : Int32).toInt ∧ (0 : Int32).toInt ≤ 1), (fun h9 => (by have z_0 := tk_0; have z_1 := tk_1; (first | (clear h_n_nodes c_59669_i h_59671 c_59672_i; omega) | omega))), (fun h9 => (by have z_0 := tk_0; have z_1 := tk_1; (first | (clear h_n_nodes c_59669_i h_59671 c_59672_i; omega) | omega)))⟩, ht⟩) (fun _ h => nomatch h) dX2_has_17
    · skip
      have c_59672_i := Int32.lt_iff_toInt_lt.mp (Int32.not_le.mp c_59672)
      have h_59673 : 0 ≤ (p0 : Int32).toInt ∧ (p0 : Int32).toInt ≤ 11 := nr_lt_l h_59671 h_n_nodes c_59672_i (by decide) (by decide)
      have h_59674 : 1 ≤ (n_nodes : Int32).toInt ∧ (n_nodes : Int32).toInt ≤ 12 := nr_lt_r h_59671 h_n_nodes c_59672_i (by decide) (by decide)
      refine lv_iconst (v := 1) hx hb dX2_has_12 (by decide) ?_
      refine lv_goto (tgt := 17) hx hb dX2_has_13 (by decide) ?_
      exact W.zret (v := 1) hx hb hr (by decide) (fun t ht hW => ⟨1, rfl, ⟨(⟨by decide, by decide⟩ : 0 ≤ (1 : Int32).toInt ∧ (1 : Int32).toInt ≤ 1), (fun h9 => (by have z_0 := tk_0; have z_1 := tk_1; (first | (clear h_n_nodes c_59669_i h_59671 c_59672_i h_59673 h_59674; omega) | omega))), (fun h9 => (by have z_0 := tk_0; have z_1 := tk_1; (first | (clear h_n_nodes c_59669_i h_59671 c_59672_i h_59673 h_59674; omega) | omega)))⟩, ht⟩) (fun _ h => nomatch h) dX2_has_17
set_option maxHeartbeats 4000000 in
set_option maxRecDepth 100000 in
theorem c_X2_hasWayN (l : Launch) (D : va_G) (g : Nat → ClassId) (n : Nat) (p0 : Int32) (p1 : Int32) (n_nodes : Int32) (n_kind : Nat) (n_pay : Nat) (n_name : Nat) (n_ways : Nat) (n_held : Nat) (n_targets : Nat) (n_weights : Nat) (n_fways : Nat → Int32) (h_n_nodes : 0 ≤ (n_nodes : Int32).toInt ∧ (n_nodes : Int32).toInt ≤ 12) (h_n_fways : ∀ j : Nat, 0 ≤ (n_fways j).toInt ∧ (n_fways j).toInt ≤ 3) : Met l yX2_hasWay (.code yX2_hasWay cX2_hasWay 3 (some .boolean) :: wsL_law) ({ frames := 1, cells := 0, slots := 0, locals := 21 }) (va_Pc [.ref n, .int p0, .int p1] (fun U => va_P D vwCl [(wO2 n n_nodes n_kind n_pay n_name n_ways n_held n_targets n_weights), (wI g n_ways 0 12 n_fways)] U.heap ∧ va_K D vwCl (TY g) U)) (vp_Si (fun r => (0 ≤ (r : Int32).toInt ∧ (r : Int32).toInt ≤ 1) ∧ (Hide (¬ (r : Int32).toInt = 0 → (0 ≤ (p0 : Int32).toInt ∧ (p0 : Int32).toInt < (n_nodes : Int32).toInt) ∧ 0 ≤ (p1 : Int32).toInt ∧ (p1 : Int32).toInt < (n_fways (p0 : Int32).toInt.toNat).toInt)) ∧ (Hide ((r : Int32).toInt = 0 → ¬ ((0 ≤ (p0 : Int32).toInt ∧ (p0 : Int32).toInt < (n_nodes : Int32).toInt) ∧ 0 ≤ (p1 : Int32).toInt ∧ (p1 : Int32).toInt < (n_fways (p0 : Int32).toInt.toNat).toInt))))) 0 0 (fun _ => False) := by
  refine Met.ofW (cc := cX2_hasWay) (maxL := 3) (ret := (some .boolean)) (by decide) rfl ?_
  intro p e s m args below meth c s₁ B hml hv
  obtain ⟨ha, hP, hK⟩ := hv
  have hx := B.exec
  have hb := B.bytes
  have hr := B.returns
  have hts0 := atoms_spec (ws := (.code yX2_hasWay cX2_hasWay 3 (some .boolean) :: wsL_law)) B.pre
  have hts : ∀ w ∈ wsL_law, w.before args s = true := fun w h => hts0 w (List.mem_cons_of_mem _ h)
  have hown : s.vm.findClass RX2 = some m.cls := findClass_of_methodNamed B.named
  have hlocks := B.notSynchronized
  have hP : va_P D vwCl [(wO2 n n_nodes n_kind n_pay n_name n_ways n_held n_targets n_weights), (wI g n_ways 0 12 n_fways)] s.heap := hP
  refine W.eq (g2 := entryFrame m ([.ref n, .int p0, .int p1] : List Value).toArray 3) (by rw [ha]) ?_
  have hl := lv_entry ([.ref n, .int p0, .int p1]) (n := 3) (Nat.le_of_ble_eq_true rfl)
  rw [lg_entry_eq]
  generalize (lg_sl ([.ref n, .int p0, .int p1]) ++ List.replicate (3 - (lg_sl ([.ref n, .int p0, .int p1])).length) Slot.unset).toArray = ls at hl ⊢
  have hl : lv_has ls 3 [(0, .ref n), (1, .int p0), (2, .int p1)] := hl
  have hwy_9 := h_n_fways (p0 : Int32).toInt.toNat
  refine lv_aload_n hx hb dX2_hasWay_0 rfl (lv_at hl 0 rfl) ?_
  refine lv_iload_n hx hb dX2_hasWay_1 rfl (lv_at hl 1 rfl) ?_
  have hPc := hP.sub (ws' := [(wO2 n n_nodes n_kind n_pay n_name n_ways n_held n_targets n_weights)]) [0] rfl
  refine vp_callSi (va_Run.run (va_runV (As := [.int p0]) (rest := []) ⟨hx, hb, hml, hown, hts⟩ (c_X2_hasN l D g n p0 n_nodes n_kind n_pay n_name n_ways n_held n_targets n_weights (tr_w h_n_nodes (by decide) (by decide))) (cwV 1 hts (tz_gV qw_328 qw_329 qw_330 qw_322 qw_331) rfl rfl rfl (by decide +kernel) ⟨Nat.le_of_ble_eq_true rfl, Nat.le_of_ble_eq_true rfl⟩) ⟨tz_blS, va_recv hK hPc (ci := 2) (q0 := 0) rfl rfl, tz_preS hPc hK⟩ rfl rfl hl.1 rfl (lv_room (Nat.le_of_ble_eq_true rfl)) dX2_hasWay_2 ⟨Nat.le_of_ble_eq_true rfl, Nat.le_of_ble_eq_true rfl⟩)) (fun r_59675 hw => ?_)
  have hw_59676 : 0 ≤ (r_59675 : Int32).toInt ∧ (r_59675 : Int32).toInt ≤ 1 := hw.1
  have hw_59676_p0 : Hide (¬ (r_59675 : Int32).toInt = 0 → (0 ≤ (p0 : Int32).toInt ∧ (p0 : Int32).toInt < (n_nodes : Int32).toInt)) := hw.2.1
  have hw_59676_p1 : Hide ((r_59675 : Int32).toInt = 0 → ¬ (0 ≤ (p0 : Int32).toInt ∧ (p0 : Int32).toInt < (n_nodes : Int32).toInt)) := hw.2.2
  refine lv_if_eq (tgt := 26) hx hb dX2_hasWay_5 (by decide) (fun c_59677 => ?_) (fun c_59677 => ?_)
  · skip
    have kk_0 := tk_0
    have c_59677_i : (r_59675 : Int32).toInt = (0 : Int32).toInt := congrArg Int32.toInt c_59677
    have hw_59676_p1_u := (hw_59676_p1).get (c_59677_i.trans tk_0)
    have h_59678 : 0 ≤ (r_59675 : Int32).toInt ∧ (r_59675 : Int32).toInt ≤ 0 := nr_eq_l hw_59676 (⟨by decide, by decide⟩ : 0 ≤ (0 : Int32).toInt ∧ (0 : Int32).toInt ≤ 0) c_59677_i (by decide) (by decide)
    refine lv_iconst (v := 0) hx hb dX2_hasWay_26 (by decide) ?_
    exact W.zret (v := 0) hx hb hr (by decide) (fun t ht hW => ⟨0, rfl, ⟨(⟨by decide, by decide⟩ : 0 ≤ (0 : Int32).toInt ∧ (0 : Int32).toInt ≤ 1), (fun h9 => (by have z_0 := tk_0; have z_1 := tk_1; (first | (clear h_n_nodes hw_59676 c_59677_i h_59678; omega) | omega))), (fun h9 => (by have z_0 := tk_0; have z_1 := tk_1; (first | (clear h_n_nodes hw_59676 c_59677_i h_59678; omega) | omega)))⟩, ht⟩) (fun _ h => nomatch h) dX2_hasWay_27
  · skip
    have kk_0 := tk_0
    have c_59677_i : ¬ (r_59675 : Int32).toInt = (0 : Int32).toInt := (fun q => c_59677 (Int32.toInt_inj.mp q))
    have hw_59676_p0_u := (hw_59676_p0).get (fun q => c_59677_i (q.trans tk_0.symm))
    have h_59679 : 0 ≤ (p0 : Int32).toInt ∧ (p0 : Int32).toInt ≤ 11 := by omega
    have h_59680 : 1 ≤ (r_59675 : Int32).toInt ∧ (r_59675 : Int32).toInt ≤ 1 := nr_ne_l hw_59676 (⟨by decide, by decide⟩ : 0 ≤ (0 : Int32).toInt ∧ (0 : Int32).toInt ≤ 0) c_59677_i (by decide) (by decide)
    refine lv_iload_n hx hb dX2_hasWay_8 rfl (lv_at hl 2 rfl) ?_
    refine lv_if_lt (tgt := 26) hx hb dX2_hasWay_9 (by decide) (fun c_59681 => ?_) (fun c_59681 => ?_)
    · skip
      have c_59681_i := Int32.lt_iff_toInt_lt.mp c_59681
      have h_59682 : (-2147483648) ≤ (p1 : Int32).toInt ∧ (p1 : Int32).toInt ≤ (-1) := nr_lt_l (tr_any p1) (⟨by decide, by decide⟩ : 0 ≤ (0 : Int32).toInt ∧ (0 : Int32).toInt ≤ 0) c_59681_i (by decide) (by decide)
      refine lv_iconst (v := 0) hx hb dX2_hasWay_26 (by decide) ?_
      exact W.zret (v := 0) hx hb hr (by decide) (fun t ht hW => ⟨0, rfl, ⟨(⟨by decide, by decide⟩ : 0 ≤ (0 : Int32).toInt ∧ (0 : Int32).toInt ≤ 1), (fun h9 => (by have z_0 := tk_0; have z_1 := tk_1; (first | (clear h_n_nodes hw_59676 c_59677_i h_59679 h_59680 c_59681_i h_59682; omega) | omega))), (fun h9 => (by have z_0 := tk_0; have z_1 := tk_1; (first | (clear h_n_nodes hw_59676 c_59677_i h_59679 h_59680 c_59681_i h_59682; omega) | omega)))⟩, ht⟩) (fun _ h => nomatch h) dX2_hasWay_27
    · skip
      have c_59681_i := Int32.le_iff_toInt_le.mp (Int32.not_lt.mp c_59681)
      have h_59683 : 0 ≤ (p1 : Int32).toInt ∧ (p1 : Int32).toInt ≤ 2147483647 := nr_le_r (⟨by decide, by decide⟩ : 0 ≤ (0 : Int32).toInt ∧ (0 : Int32).toInt ≤ 0) (tr_any p1) c_59681_i (by decide) (by decide)
      refine lv_iload_n hx hb dX2_hasWay_12 rfl (lv_at hl 2 rfl) ?_
      refine lv_aload_n hx hb dX2_hasWay_13 rfl (lv_at hl 0 rfl) ?_
      refine va_get (D := D) (ci := 2) (v := .ref n_ways) (C := RX2) (T := TX2) (N := 8) hx hb hts inlX2 hown hK hP 0 rfl rfl 4 (by decide) (hts (Cond.fieldLink RX2 21 "ChanceRings$Net" "ways" "[I") qw_318) (fun _ h9 => h9) rfl dX2_hasWay_14 ?_
      refine lv_iload_n hx hb dX2_hasWay_17 rfl (lv_at hl 1 rfl) ?_
      refine va_iald hx hb hK hP 1 0 rfl rfl (tr_in h_59679 (by decide) (by decide)) dX2_hasWay_18 ?_
      refine lv_topi (fun v_59684 v_59684_e => ?_)
      have h_v_59684 : 0 ≤ (v_59684 : Int32).toInt ∧ (v_59684 : Int32).toInt ≤ 3 := by rw [v_59684_e]; exact h_n_fways _
      have g_v_59684 : v_59684 = n_fways (p0.toInt.toNat) := v_59684_e.trans (congrArg n_fways rfl)
      have gi_v_59684 := congrArg Int32.toInt g_v_59684
      refine lv_icmp_ge (tgt := 26) hx hb dX2_hasWay_19 (by decide) (fun c_59685 => ?_) (fun c_59685 => ?_)
      · skip
        have c_59685_i := Int32.le_iff_toInt_le.mp c_59685
        refine lv_iconst (v := 0) hx hb dX2_hasWay_26 (by decide) ?_
        exact W.zret (v := 0) hx hb hr (by decide) (fun t ht hW => ⟨0, rfl, ⟨(⟨by decide, by decide⟩ : 0 ≤ (0 : Int32).toInt ∧ (0 : Int32).toInt ≤ 1), (fun h9 => (by have z_0 := tk_0; have z_1 := tk_1; (first | (clear h_n_nodes hw_59676 c_59677_i h_59679 h_59680 c_59681_i h_59683 h_v_59684 g_v_59684 gi_v_59684 c_59685_i; omega) | omega))), (fun h9 => (by have z_0 := tk_0; have z_1 := tk_1; (first | (clear h_n_nodes hw_59676 c_59677_i h_59679 h_59680 c_59681_i h_59683 h_v_59684 g_v_59684 gi_v_59684 c_59685_i; omega) | omega)))⟩, ht⟩) (fun _ h => nomatch h) dX2_hasWay_27
      · skip
        have c_59685_i := Int32.lt_iff_toInt_lt.mp (Int32.not_le.mp c_59685)
        have h_59686 : 0 ≤ (p1 : Int32).toInt ∧ (p1 : Int32).toInt ≤ 2 := nr_lt_l h_59683 h_v_59684 c_59685_i (by decide) (by decide)
        have h_59687 : 1 ≤ (v_59684 : Int32).toInt ∧ (v_59684 : Int32).toInt ≤ 3 := nr_lt_r h_59683 h_v_59684 c_59685_i (by decide) (by decide)
        refine lv_iconst (v := 1) hx hb dX2_hasWay_22 (by decide) ?_
        refine lv_goto (tgt := 27) hx hb dX2_hasWay_23 (by decide) ?_
        exact W.zret (v := 1) hx hb hr (by decide) (fun t ht hW => ⟨1, rfl, ⟨(⟨by decide, by decide⟩ : 0 ≤ (1 : Int32).toInt ∧ (1 : Int32).toInt ≤ 1), (fun h9 => (by have z_0 := tk_0; have z_1 := tk_1; (first | (clear h_n_nodes hw_59676 c_59677_i h_59679 h_59680 c_59681_i h_59683 h_v_59684 g_v_59684 gi_v_59684 c_59685_i h_59686 h_59687; omega) | omega))), (fun h9 => (by have z_0 := tk_0; have z_1 := tk_1; (first | (clear h_n_nodes hw_59676 c_59677_i h_59679 h_59680 c_59681_i h_59683 h_v_59684 g_v_59684 gi_v_59684 c_59685_i h_59686 h_59687; omega) | omega)))⟩, ht⟩) (fun _ h => nomatch h) dX2_hasWay_27
set_option maxHeartbeats 4000000 in
set_option maxRecDepth 100000 in
theorem c_X2_isChooserN (l : Launch) (D : va_G) (g : Nat → ClassId) (n : Nat) (p0 : Int32) (n_nodes : Int32) (n_kind : Nat) (n_pay : Nat) (n_name : Nat) (n_ways : Nat) (n_held : Nat) (n_targets : Nat) (n_weights : Nat) (n_fkind : Nat → Int32) (h_n_nodes : 0 ≤ (n_nodes : Int32).toInt ∧ (n_nodes : Int32).toInt ≤ 12) (h_n_fkind : ∀ j : Nat, 0 ≤ (n_fkind j).toInt ∧ (n_fkind j).toInt ≤ 3) : Met l yX2_isChooser (.code yX2_isChooser cX2_isChooser 2 (some .boolean) :: wsL_law) ({ frames := 1, cells := 0, slots := 0, locals := 21 }) (va_Pc [.ref n, .int p0] (fun U => va_P D vwCl [(wO2 n n_nodes n_kind n_pay n_name n_ways n_held n_targets n_weights), (wI g n_kind 0 12 n_fkind)] U.heap ∧ va_K D vwCl (TY g) U)) (vp_Si (fun r => (0 ≤ (r : Int32).toInt ∧ (r : Int32).toInt ≤ 1) ∧ (Hide (¬ (r : Int32).toInt = 0 → (0 ≤ (p0 : Int32).toInt ∧ (p0 : Int32).toInt < (n_nodes : Int32).toInt) ∧ ((n_fkind (p0 : Int32).toInt.toNat).toInt = 1 ∨ (n_fkind (p0 : Int32).toInt.toNat).toInt = 2))) ∧ (Hide ((r : Int32).toInt = 0 → ¬ ((0 ≤ (p0 : Int32).toInt ∧ (p0 : Int32).toInt < (n_nodes : Int32).toInt) ∧ ((n_fkind (p0 : Int32).toInt.toNat).toInt = 1 ∨ (n_fkind (p0 : Int32).toInt.toNat).toInt = 2)))))) 0 0 (fun _ => False) := by
  refine Met.ofW (cc := cX2_isChooser) (maxL := 2) (ret := (some .boolean)) (by decide) rfl ?_
  intro p e s m args below meth c s₁ B hml hv
  obtain ⟨ha, hP, hK⟩ := hv
  have hx := B.exec
  have hb := B.bytes
  have hr := B.returns
  have hts0 := atoms_spec (ws := (.code yX2_isChooser cX2_isChooser 2 (some .boolean) :: wsL_law)) B.pre
  have hts : ∀ w ∈ wsL_law, w.before args s = true := fun w h => hts0 w (List.mem_cons_of_mem _ h)
  have hown : s.vm.findClass RX2 = some m.cls := findClass_of_methodNamed B.named
  have hlocks := B.notSynchronized
  have hP : va_P D vwCl [(wO2 n n_nodes n_kind n_pay n_name n_ways n_held n_targets n_weights), (wI g n_kind 0 12 n_fkind)] s.heap := hP
  refine W.eq (g2 := entryFrame m ([.ref n, .int p0] : List Value).toArray 2) (by rw [ha]) ?_
  have hl := lv_entry ([.ref n, .int p0]) (n := 2) (Nat.le_of_ble_eq_true rfl)
  rw [lg_entry_eq]
  generalize (lg_sl ([.ref n, .int p0]) ++ List.replicate (2 - (lg_sl ([.ref n, .int p0])).length) Slot.unset).toArray = ls at hl ⊢
  have hl : lv_has ls 2 [(0, .ref n), (1, .int p0)] := hl
  refine lv_aload_n hx hb dX2_isChooser_0 rfl (lv_at hl 0 rfl) ?_
  refine lv_iload_n hx hb dX2_isChooser_1 rfl (lv_at hl 1 rfl) ?_
  have hPc := hP.sub (ws' := [(wO2 n n_nodes n_kind n_pay n_name n_ways n_held n_targets n_weights)]) [0] rfl
  refine vp_callSi (va_Run.run (va_runV (As := [.int p0]) (rest := []) ⟨hx, hb, hml, hown, hts⟩ (c_X2_hasN l D g n p0 n_nodes n_kind n_pay n_name n_ways n_held n_targets n_weights (tr_w h_n_nodes (by decide) (by decide))) (cwV 1 hts (tz_gV qw_328 qw_329 qw_330 qw_322 qw_331) rfl rfl rfl (by decide +kernel) ⟨Nat.le_of_ble_eq_true rfl, Nat.le_of_ble_eq_true rfl⟩) ⟨tz_blS, va_recv hK hPc (ci := 2) (q0 := 0) rfl rfl, tz_preS hPc hK⟩ rfl rfl hl.1 rfl (lv_room (Nat.le_of_ble_eq_true rfl)) dX2_isChooser_2 ⟨Nat.le_of_ble_eq_true rfl, Nat.le_of_ble_eq_true rfl⟩)) (fun r_59688 hw => ?_)
  have hw_59689 : 0 ≤ (r_59688 : Int32).toInt ∧ (r_59688 : Int32).toInt ≤ 1 := hw.1
  have hw_59689_p0 : Hide (¬ (r_59688 : Int32).toInt = 0 → (0 ≤ (p0 : Int32).toInt ∧ (p0 : Int32).toInt < (n_nodes : Int32).toInt)) := hw.2.1
  have hw_59689_p1 : Hide ((r_59688 : Int32).toInt = 0 → ¬ (0 ≤ (p0 : Int32).toInt ∧ (p0 : Int32).toInt < (n_nodes : Int32).toInt)) := hw.2.2
  refine lv_if_eq (tgt := 32) hx hb dX2_isChooser_5 (by decide) (fun c_59690 => ?_) (fun c_59690 => ?_)
  · skip
    have kk_0 := tk_0
    have c_59690_i : (r_59688 : Int32).toInt = (0 : Int32).toInt := congrArg Int32.toInt c_59690
    have hw_59689_p1_u := (hw_59689_p1).get (c_59690_i.trans tk_0)
    have h_59691 : 0 ≤ (r_59688 : Int32).toInt ∧ (r_59688 : Int32).toInt ≤ 0 := nr_eq_l hw_59689 (⟨by decide, by decide⟩ : 0 ≤ (0 : Int32).toInt ∧ (0 : Int32).toInt ≤ 0) c_59690_i (by decide) (by decide)
    refine lv_iconst (v := 0) hx hb dX2_isChooser_32 (by decide) ?_
    exact W.zret (v := 0) hx hb hr (by decide) (fun t ht hW => ⟨0, rfl, ⟨(⟨by decide, by decide⟩ : 0 ≤ (0 : Int32).toInt ∧ (0 : Int32).toInt ≤ 1), (fun h9 => (by have z_0 := tk_0; have z_1 := tk_1; (first | (clear h_n_nodes hw_59689 c_59690_i h_59691; omega) | omega))), (fun h9 => (by have z_0 := tk_0; have z_1 := tk_1; (first | (clear h_n_nodes hw_59689 c_59690_i h_59691; omega) | omega)))⟩, ht⟩) (fun _ h => nomatch h) dX2_isChooser_33
  · skip
    have kk_0 := tk_0
    have c_59690_i : ¬ (r_59688 : Int32).toInt = (0 : Int32).toInt := (fun q => c_59690 (Int32.toInt_inj.mp q))
    have hw_59689_p0_u := (hw_59689_p0).get (fun q => c_59690_i (q.trans tk_0.symm))
    have h_59692 : 0 ≤ (p0 : Int32).toInt ∧ (p0 : Int32).toInt ≤ 11 := by omega
    have h_59693 : 1 ≤ (r_59688 : Int32).toInt ∧ (r_59688 : Int32).toInt ≤ 1 := nr_ne_l hw_59689 (⟨by decide, by decide⟩ : 0 ≤ (0 : Int32).toInt ∧ (0 : Int32).toInt ≤ 0) c_59690_i (by decide) (by decide)
    refine lv_aload_n hx hb dX2_isChooser_8 rfl (lv_at hl 0 rfl) ?_
    refine va_get (D := D) (ci := 2) (v := .ref n_kind) (C := RX2) (T := TX2) (N := 8) hx hb hts inlX2 hown hK hP 0 rfl rfl 1 (by decide) (hts (Cond.fieldLink RX2 9 "ChanceRings$Net" "kind" "[I") qw_316) (fun _ h9 => h9) rfl dX2_isChooser_9 ?_
    refine lv_iload_n hx hb dX2_isChooser_12 rfl (lv_at hl 1 rfl) ?_
    refine va_iald hx hb hK hP 1 0 rfl rfl (tr_in h_59692 (by decide) (by decide)) dX2_isChooser_13 ?_
    refine lv_topi (fun v_59694 v_59694_e => ?_)
    have h_v_59694 : 0 ≤ (v_59694 : Int32).toInt ∧ (v_59694 : Int32).toInt ≤ 3 := by rw [v_59694_e]; exact h_n_fkind _
    have g_v_59694 : v_59694 = n_fkind (p0.toInt.toNat) := v_59694_e.trans (congrArg n_fkind rfl)
    have gi_v_59694 := congrArg Int32.toInt g_v_59694
    refine lv_iconst (v := 1) hx hb dX2_isChooser_14 (by decide) ?_
    refine lv_icmp_eq (tgt := 28) hx hb dX2_isChooser_15 (by decide) (fun c_59695 => ?_) (fun c_59695 => ?_)
    · skip
      have kk_1 := tk_1
      have c_59695_i : (v_59694 : Int32).toInt = (1 : Int32).toInt := congrArg Int32.toInt c_59695
      have h_59696 : 1 ≤ (v_59694 : Int32).toInt ∧ (v_59694 : Int32).toInt ≤ 1 := nr_eq_l h_v_59694 (⟨by decide, by decide⟩ : 1 ≤ (1 : Int32).toInt ∧ (1 : Int32).toInt ≤ 1) c_59695_i (by decide) (by decide)
      refine lv_iconst (v := 1) hx hb dX2_isChooser_28 (by decide) ?_
      refine lv_goto (tgt := 33) hx hb dX2_isChooser_29 (by decide) ?_
      exact W.zret (v := 1) hx hb hr (by decide) (fun t ht hW => ⟨1, rfl, ⟨(⟨by decide, by decide⟩ : 0 ≤ (1 : Int32).toInt ∧ (1 : Int32).toInt ≤ 1), (fun h9 => (by have z_0 := tk_0; have z_1 := tk_1; (first | (clear h_n_nodes hw_59689 c_59690_i h_59692 h_59693 h_v_59694 g_v_59694 gi_v_59694 c_59695_i h_59696; omega) | omega))), (fun h9 => (by have z_0 := tk_0; have z_1 := tk_1; (first | (clear h_n_nodes hw_59689 c_59690_i h_59692 h_59693 h_v_59694 g_v_59694 gi_v_59694 c_59695_i h_59696; omega) | omega)))⟩, ht⟩) (fun _ h => nomatch h) dX2_isChooser_33
    · skip
      have kk_1 := tk_1
      have c_59695_i : ¬ (v_59694 : Int32).toInt = (1 : Int32).toInt := (fun q => c_59695 (Int32.toInt_inj.mp q))
      refine lv_aload_n hx hb dX2_isChooser_18 rfl (lv_at hl 0 rfl) ?_
      refine va_get (D := D) (ci := 2) (v := .ref n_kind) (C := RX2) (T := TX2) (N := 8) hx hb hts inlX2 hown hK hP 0 rfl rfl 1 (by decide) (hts (Cond.fieldLink RX2 9 "ChanceRings$Net" "kind" "[I") qw_316) (fun _ h9 => h9) rfl dX2_isChooser_19 ?_
      refine lv_iload_n hx hb dX2_isChooser_22 rfl (lv_at hl 1 rfl) ?_
      refine va_iald hx hb hK hP 1 0 rfl rfl (tr_in h_59692 (by decide) (by decide)) dX2_isChooser_23 ?_
      refine tz_i (y := v_59694) ((congrArg n_fkind rfl).trans g_v_59694.symm) ?_
      refine lv_iconst (v := 2) hx hb dX2_isChooser_24 (by decide) ?_
      refine lv_icmp_ne (tgt := 32) hx hb dX2_isChooser_25 (by decide) (fun c_59697 => ?_) (fun c_59697 => ?_)
      · skip
        have kk_2 := tk_2
        have c_59697_i : ¬ (v_59694 : Int32).toInt = (2 : Int32).toInt := (fun q => c_59697 (Int32.toInt_inj.mp q))
        refine lv_iconst (v := 0) hx hb dX2_isChooser_32 (by decide) ?_
        exact W.zret (v := 0) hx hb hr (by decide) (fun t ht hW => ⟨0, rfl, ⟨(⟨by decide, by decide⟩ : 0 ≤ (0 : Int32).toInt ∧ (0 : Int32).toInt ≤ 1), (fun h9 => (by have z_0 := tk_0; have z_1 := tk_1; (first | (clear h_n_nodes hw_59689 c_59690_i h_59692 h_59693 h_v_59694 g_v_59694 gi_v_59694 c_59695_i c_59697_i; omega) | omega))), (fun h9 => (by have z_0 := tk_0; have z_1 := tk_1; (first | (clear h_n_nodes hw_59689 c_59690_i h_59692 h_59693 h_v_59694 g_v_59694 gi_v_59694 c_59695_i c_59697_i; omega) | omega)))⟩, ht⟩) (fun _ h => nomatch h) dX2_isChooser_33
      · skip
        have kk_2 := tk_2
        have c_59697_i : (v_59694 : Int32).toInt = (2 : Int32).toInt := congrArg Int32.toInt c_59697
        have h_59698 : 2 ≤ (v_59694 : Int32).toInt ∧ (v_59694 : Int32).toInt ≤ 2 := nr_eq_l h_v_59694 (⟨by decide, by decide⟩ : 2 ≤ (2 : Int32).toInt ∧ (2 : Int32).toInt ≤ 2) c_59697_i (by decide) (by decide)
        refine lv_iconst (v := 1) hx hb dX2_isChooser_28 (by decide) ?_
        refine lv_goto (tgt := 33) hx hb dX2_isChooser_29 (by decide) ?_
        exact W.zret (v := 1) hx hb hr (by decide) (fun t ht hW => ⟨1, rfl, ⟨(⟨by decide, by decide⟩ : 0 ≤ (1 : Int32).toInt ∧ (1 : Int32).toInt ≤ 1), (fun h9 => (by have z_0 := tk_0; have z_1 := tk_1; (first | (clear h_n_nodes hw_59689 c_59690_i h_59692 h_59693 h_v_59694 g_v_59694 gi_v_59694 c_59695_i c_59697_i h_59698; omega) | omega))), (fun h9 => (by have z_0 := tk_0; have z_1 := tk_1; (first | (clear h_n_nodes hw_59689 c_59690_i h_59692 h_59693 h_v_59694 g_v_59694 gi_v_59694 c_59695_i c_59697_i h_59698; omega) | omega)))⟩, ht⟩) (fun _ h => nomatch h) dX2_isChooser_33
set_option maxHeartbeats 4000000 in
set_option maxRecDepth 100000 in
theorem c_X2_setWeightN (l : Launch) (D : va_G) (g : Nat → ClassId) (sz : Nat) (n : Nat) (p0 : Int32) (p1 : Int32) (p2 : Int32) (n_nodes : Int32) (n_kind : Nat) (n_pay : Nat) (n_name : Nat) (n_ways : Nat) (n_held : Nat) (n_targets : Nat) (n_weights : Nat) (n_fweights : Nat → Int32) (h_p0 : 0 ≤ (p0 : Int32).toInt ∧ (p0 : Int32).toInt ≤ 11) (h_p1 : 0 ≤ (p1 : Int32).toInt ∧ (p1 : Int32).toInt ≤ 2) (h_n_nodes : 0 ≤ (n_nodes : Int32).toInt ∧ (n_nodes : Int32).toInt ≤ 12) : Met l yX2_setWeight (.code yX2_setWeight cX2_setWeight 4 none :: wsL_law) ({ frames := 0, cells := 0, slots := 0, locals := 0 }) (va_Pc [.ref n, .int p0, .int p1, .int p2] (fun U => U.heap.size = sz ∧ va_P D vwCl [(wO2 n n_nodes n_kind n_pay n_name n_ways n_held n_targets n_weights), (wI g n_weights 0 36 n_fweights)] U.heap ∧ va_K D vwCl (TY g) U ∧ va_D (fun _ => True) [(wO2 n n_nodes n_kind n_pay n_name n_ways n_held n_targets n_weights), (wI g n_weights 0 36 n_fweights)])) (va_Qv (fun (_ : Unit) => True) (fun _ t => ∃ n_gweights : Nat → Int32, (n_gweights = upd n_fweights (3 * (p0 : Int32).toInt.toNat + (p1 : Int32).toInt.toNat) p2) ∧ va_P D vwCl [(wO2 n n_nodes n_kind n_pay n_name n_ways n_held n_targets n_weights), (wI g n_weights 0 36 n_gweights)] t.heap ∧ va_D (va_A [(wO2 n n_nodes n_kind n_pay n_name n_ways n_held n_targets n_weights), (wI g n_weights 0 36 n_fweights)] sz) [(wO2 n n_nodes n_kind n_pay n_name n_ways n_held n_targets n_weights), (wI g n_weights 0 36 n_gweights)]) (va_A [(wO2 n n_nodes n_kind n_pay n_name n_ways n_held n_targets n_weights), (wI g n_weights 0 36 n_fweights)] sz)) 0 0 (va_A [(wO2 n n_nodes n_kind n_pay n_name n_ways n_held n_targets n_weights), (wI g n_weights 0 36 n_fweights)] sz) := by
  refine Met.ofW (cc := cX2_setWeight) (maxL := 4) (ret := none) (by decide) rfl ?_
  intro p e s m args below meth c s₁ B hml hv
  obtain ⟨ha, hsz, hP, hK, hD0⟩ := hv
  have hx := B.exec
  have hb := B.bytes
  have hr := B.returns
  have hts0 := atoms_spec (ws := (.code yX2_setWeight cX2_setWeight 4 none :: wsL_law)) B.pre
  have hts : ∀ w ∈ wsL_law, w.before args s = true := fun w h => hts0 w (List.mem_cons_of_mem _ h)
  have hown : s.vm.findClass RX2 = some m.cls := findClass_of_methodNamed B.named
  have hlocks := B.notSynchronized
  subst hsz
  have hD := hD0.self (sz := s.heap.size)
  generalize hAe : va_A [(wO2 n n_nodes n_kind n_pay n_name n_ways n_held n_targets n_weights), (wI g n_weights 0 36 n_fweights)] s.heap.size = A at hD ⊢
  have hA : ∀ q : Nat, s.heap.size ≤ q → A q := fun q h => by rw [← hAe]; exact Or.inr h
  have hS : va_S A s.heap s.heap [] := va_S.rf
  have hP : va_P D vwCl [(wO2 n n_nodes n_kind n_pay n_name n_ways n_held n_targets n_weights), (wI g n_weights 0 36 n_fweights)] s.heap := hP
  refine W.eq (g2 := entryFrame m ([.ref n, .int p0, .int p1, .int p2] : List Value).toArray 4) (by rw [ha]) ?_
  have hl := lv_entry ([.ref n, .int p0, .int p1, .int p2]) (n := 4) (Nat.le_of_ble_eq_true rfl)
  rw [lg_entry_eq]
  generalize (lg_sl ([.ref n, .int p0, .int p1, .int p2]) ++ List.replicate (4 - (lg_sl ([.ref n, .int p0, .int p1, .int p2])).length) Slot.unset).toArray = ls at hl ⊢
  have hl : lv_has ls 4 [(0, .ref n), (1, .int p0), (2, .int p1), (3, .int p2)] := hl
  refine lv_aload_n hx hb dX2_setWeight_0 rfl (lv_at hl 0 rfl) ?_
  refine va_get (D := D) (ci := 2) (v := .ref n_weights) (C := RX2) (T := TX2) (N := 8) hx hb hts inlX2 hown hK hP 0 rfl rfl 7 (by decide) (hts (Cond.fieldLink RX2 30 "ChanceRings$Net" "weights" "[I") qw_332) (fun _ h9 => h9) rfl dX2_setWeight_1 ?_
  refine lv_iload_n hx hb dX2_setWeight_4 rfl (lv_at hl 1 rfl) ?_
  refine lv_iconst (v := 3) hx hb dX2_setWeight_5 (by decide) ?_
  refine lv_imul hx hb dX2_setWeight_6 ?_
  refine lv_topi (fun v_59705 v_59705_e => ?_)
  have h_v_59705 : 0 ≤ (v_59705 : Int32).toInt ∧ (v_59705 : Int32).toInt ≤ 33 := by rw [v_59705_e]; exact tr_mul h_p0 (⟨by decide, by decide⟩ : 3 ≤ (3 : Int32).toInt ∧ (3 : Int32).toInt ≤ 3) (by decide) (by decide) (by decide) (by decide)
  have q_v_59705 : v_59705.toInt = p0.toInt * 3 := by rw [v_59705_e]; exact (tr_mulX h_p0 (⟨by decide, by decide⟩ : 3 ≤ (3 : Int32).toInt ∧ (3 : Int32).toInt ≤ 3) (by decide) (by decide)).trans (by rw [tk_3])
  refine lv_iload_n hx hb dX2_setWeight_7 rfl (lv_at hl 2 rfl) ?_
  refine lv_iadd hx hb dX2_setWeight_8 ?_
  refine lv_topi (fun v_59706 v_59706_e => ?_)
  have h_v_59706 : 0 ≤ (v_59706 : Int32).toInt ∧ (v_59706 : Int32).toInt ≤ 35 := by rw [v_59706_e]; exact tr_add h_v_59705 h_p1 (by decide) (by decide) (by decide) (by decide)
  have q_v_59706 : v_59706.toInt = v_59705.toInt + p1.toInt := by rw [v_59706_e]; exact tr_addX h_v_59705 h_p1 (by decide) (by decide)
  refine lv_iload_n hx hb dX2_setWeight_9 rfl (lv_at hl 3 rfl) ?_
  refine va_iast hx hb hK hP hD hS 1 0 rfl rfl (tr_in h_v_59706 (by decide) (by decide)) dX2_setWeight_10 (fun H locs hP hD hS => ?_)
  obtain ⟨f_59707, f_59707_e, hP, hD⟩ : ∃ FX : Nat → Int32, FX = (upd n_fweights (v_59706 : Int32).toNatClampNeg p2) ∧ va_P D vwCl [(wO2 n n_nodes n_kind n_pay n_name n_ways n_held n_targets n_weights), (wI g n_weights 0 36 FX)] H ∧ va_D A [(wO2 n n_nodes n_kind n_pay n_name n_ways n_held n_targets n_weights), (wI g n_weights 0 36 FX)] := ⟨_, rfl, hP, hD⟩
  have hP : va_P D vwCl [(wO2 n n_nodes n_kind n_pay n_name n_ways n_held n_targets n_weights), (wI g n_weights 0 36 f_59707)] H := hP
  have hD : va_D A [(wO2 n n_nodes n_kind n_pay n_name n_ways n_held n_targets n_weights), (wI g n_weights 0 36 f_59707)] := hD
  have hP9 := hP.sub (ws' := [(wO2 n n_nodes n_kind n_pay n_name n_ways n_held n_targets n_weights), (wI g n_weights 0 36 f_59707)]) [0, 1] rfl
  have hD9 := hD.sub (ws' := [(wO2 n n_nodes n_kind n_pay n_name n_ways n_held n_targets n_weights), (wI g n_weights 0 36 f_59707)]) [0, 1] (by decide) rfl
  exact W.vret hx hb hr (fun t ht hW => ⟨⟨(), rfl, trivial, f_59707, (f_59707_e.trans (congrArg (fun k9 => upd n_fweights k9 p2) (by show Int.toNat _ = _; (first | (clear h_p0 h_p1 h_n_nodes h_v_59705 q_v_59705 h_v_59706 q_v_59706; omega) | omega)))), by rw [ht]; exact hP9, hD9⟩, hS.F ht⟩) hS.2.2 dX2_setWeight_11
set_option maxHeartbeats 4000000 in
set_option maxRecDepth 100000 in
theorem c_X2_canTakeN (l : Launch) (D : va_G) (g : Nat → ClassId) (n : Nat) (p0 : Int32) (p1 : Int32) (n_nodes : Int32) (n_kind : Nat) (n_pay : Nat) (n_name : Nat) (n_ways : Nat) (n_held : Nat) (n_targets : Nat) (n_weights : Nat) (n_fheld : Nat → Int32) (h_p0 : 0 ≤ (p0 : Int32).toInt ∧ (p0 : Int32).toInt ≤ 11) (h_n_nodes : 0 ≤ (n_nodes : Int32).toInt ∧ (n_nodes : Int32).toInt ≤ 12) (h_n_fheld : ∀ j : Nat, (-1) ≤ (n_fheld j).toInt ∧ (n_fheld j).toInt ≤ 2) : Met l yX2_canTake (.code yX2_canTake cX2_canTake 3 (some .boolean) :: wsL_law) ({ frames := 0, cells := 0, slots := 0, locals := 0 }) (va_Pc [.ref n, .int p0, .int p1] (fun U => va_P D vwCl [(wO2 n n_nodes n_kind n_pay n_name n_ways n_held n_targets n_weights), (wI g n_held 0 12 n_fheld)] U.heap ∧ va_K D vwCl (TY g) U)) (vp_Si (fun r => (0 ≤ (r : Int32).toInt ∧ (r : Int32).toInt ≤ 1) ∧ (Hide (¬ (r : Int32).toInt = 0 → ((n_fheld (p0 : Int32).toInt.toNat).toInt = -1 ∨ (n_fheld (p0 : Int32).toInt.toNat).toInt = (p1 : Int32).toInt))) ∧ (Hide ((r : Int32).toInt = 0 → ¬ ((n_fheld (p0 : Int32).toInt.toNat).toInt = -1 ∨ (n_fheld (p0 : Int32).toInt.toNat).toInt = (p1 : Int32).toInt))))) 0 0 (fun _ => False) := by
  refine Met.ofW (cc := cX2_canTake) (maxL := 3) (ret := (some .boolean)) (by decide) rfl ?_
  intro p e s m args below meth c s₁ B hml hv
  obtain ⟨ha, hP, hK⟩ := hv
  have hx := B.exec
  have hb := B.bytes
  have hr := B.returns
  have hts0 := atoms_spec (ws := (.code yX2_canTake cX2_canTake 3 (some .boolean) :: wsL_law)) B.pre
  have hts : ∀ w ∈ wsL_law, w.before args s = true := fun w h => hts0 w (List.mem_cons_of_mem _ h)
  have hown : s.vm.findClass RX2 = some m.cls := findClass_of_methodNamed B.named
  have hlocks := B.notSynchronized
  have hP : va_P D vwCl [(wO2 n n_nodes n_kind n_pay n_name n_ways n_held n_targets n_weights), (wI g n_held 0 12 n_fheld)] s.heap := hP
  refine W.eq (g2 := entryFrame m ([.ref n, .int p0, .int p1] : List Value).toArray 3) (by rw [ha]) ?_
  have hl := lv_entry ([.ref n, .int p0, .int p1]) (n := 3) (Nat.le_of_ble_eq_true rfl)
  rw [lg_entry_eq]
  generalize (lg_sl ([.ref n, .int p0, .int p1]) ++ List.replicate (3 - (lg_sl ([.ref n, .int p0, .int p1])).length) Slot.unset).toArray = ls at hl ⊢
  have hl : lv_has ls 3 [(0, .ref n), (1, .int p0), (2, .int p1)] := hl
  refine lv_aload_n hx hb dX2_canTake_0 rfl (lv_at hl 0 rfl) ?_
  refine va_get (D := D) (ci := 2) (v := .ref n_held) (C := RX2) (T := TX2) (N := 8) hx hb hts inlX2 hown hK hP 0 rfl rfl 5 (by decide) (hts (Cond.fieldLink RX2 24 "ChanceRings$Net" "held" "[I") qw_314) (fun _ h9 => h9) rfl dX2_canTake_1 ?_
  refine lv_iload_n hx hb dX2_canTake_4 rfl (lv_at hl 1 rfl) ?_
  refine va_iald hx hb hK hP 1 0 rfl rfl (tr_in h_p0 (by decide) (by decide)) dX2_canTake_5 ?_
  refine lv_topi (fun v_59708 v_59708_e => ?_)
  have h_v_59708 : (-1) ≤ (v_59708 : Int32).toInt ∧ (v_59708 : Int32).toInt ≤ 2 := by rw [v_59708_e]; exact h_n_fheld _
  have g_v_59708 : v_59708 = n_fheld (p0.toInt.toNat) := v_59708_e.trans (congrArg n_fheld rfl)
  have gi_v_59708 := congrArg Int32.toInt g_v_59708
  refine lv_iconst (v := (-1)) hx hb dX2_canTake_6 (by decide) ?_
  refine lv_icmp_eq (tgt := 20) hx hb dX2_canTake_7 (by decide) (fun c_59709 => ?_) (fun c_59709 => ?_)
  · skip
    have kk_m1 := tk_m1
    have c_59709_i : (v_59708 : Int32).toInt = ((-1) : Int32).toInt := congrArg Int32.toInt c_59709
    have h_59710 : (-1) ≤ (v_59708 : Int32).toInt ∧ (v_59708 : Int32).toInt ≤ (-1) := nr_eq_l h_v_59708 (⟨by decide, by decide⟩ : (-1) ≤ ((-1) : Int32).toInt ∧ ((-1) : Int32).toInt ≤ (-1)) c_59709_i (by decide) (by decide)
    refine lv_iconst (v := 1) hx hb dX2_canTake_20 (by decide) ?_
    refine lv_goto (tgt := 25) hx hb dX2_canTake_21 (by decide) ?_
    exact W.zret (v := 1) hx hb hr (by decide) (fun t ht hW => ⟨1, rfl, ⟨(⟨by decide, by decide⟩ : 0 ≤ (1 : Int32).toInt ∧ (1 : Int32).toInt ≤ 1), (fun h9 => (by have z_0 := tk_0; have z_1 := tk_1; (first | (clear h_p0 h_n_nodes h_v_59708 g_v_59708 gi_v_59708 c_59709_i h_59710; omega) | omega))), (fun h9 => (by have z_0 := tk_0; have z_1 := tk_1; (first | (clear h_p0 h_n_nodes h_v_59708 g_v_59708 gi_v_59708 c_59709_i h_59710; omega) | omega)))⟩, ht⟩) (fun _ h => nomatch h) dX2_canTake_25
  · skip
    have kk_m1 := tk_m1
    have c_59709_i : ¬ (v_59708 : Int32).toInt = ((-1) : Int32).toInt := (fun q => c_59709 (Int32.toInt_inj.mp q))
    have h_59711 : 0 ≤ (v_59708 : Int32).toInt ∧ (v_59708 : Int32).toInt ≤ 2 := nr_ne_l h_v_59708 (⟨by decide, by decide⟩ : (-1) ≤ ((-1) : Int32).toInt ∧ ((-1) : Int32).toInt ≤ (-1)) c_59709_i (by decide) (by decide)
    refine lv_aload_n hx hb dX2_canTake_10 rfl (lv_at hl 0 rfl) ?_
    refine va_get (D := D) (ci := 2) (v := .ref n_held) (C := RX2) (T := TX2) (N := 8) hx hb hts inlX2 hown hK hP 0 rfl rfl 5 (by decide) (hts (Cond.fieldLink RX2 24 "ChanceRings$Net" "held" "[I") qw_314) (fun _ h9 => h9) rfl dX2_canTake_11 ?_
    refine lv_iload_n hx hb dX2_canTake_14 rfl (lv_at hl 1 rfl) ?_
    refine va_iald hx hb hK hP 1 0 rfl rfl (tr_in h_p0 (by decide) (by decide)) dX2_canTake_15 ?_
    refine tz_i (y := v_59708) ((congrArg n_fheld rfl).trans g_v_59708.symm) ?_
    refine lv_iload_n hx hb dX2_canTake_16 rfl (lv_at hl 2 rfl) ?_
    refine lv_icmp_ne (tgt := 24) hx hb dX2_canTake_17 (by decide) (fun c_59712 => ?_) (fun c_59712 => ?_)
    · skip
      have c_59712_i : ¬ (v_59708 : Int32).toInt = (p1 : Int32).toInt := (fun q => c_59712 (Int32.toInt_inj.mp q))
      refine lv_iconst (v := 0) hx hb dX2_canTake_24 (by decide) ?_
      exact W.zret (v := 0) hx hb hr (by decide) (fun t ht hW => ⟨0, rfl, ⟨(⟨by decide, by decide⟩ : 0 ≤ (0 : Int32).toInt ∧ (0 : Int32).toInt ≤ 1), (fun h9 => (by have z_0 := tk_0; have z_1 := tk_1; (first | (clear h_p0 h_n_nodes h_v_59708 g_v_59708 gi_v_59708 c_59709_i h_59711 c_59712_i; omega) | omega))), (fun h9 => (by have z_0 := tk_0; have z_1 := tk_1; (first | (clear h_p0 h_n_nodes h_v_59708 g_v_59708 gi_v_59708 c_59709_i h_59711 c_59712_i; omega) | omega)))⟩, ht⟩) (fun _ h => nomatch h) dX2_canTake_25
    · skip
      have c_59712_i : (v_59708 : Int32).toInt = (p1 : Int32).toInt := congrArg Int32.toInt c_59712
      refine lv_iconst (v := 1) hx hb dX2_canTake_20 (by decide) ?_
      refine lv_goto (tgt := 25) hx hb dX2_canTake_21 (by decide) ?_
      exact W.zret (v := 1) hx hb hr (by decide) (fun t ht hW => ⟨1, rfl, ⟨(⟨by decide, by decide⟩ : 0 ≤ (1 : Int32).toInt ∧ (1 : Int32).toInt ≤ 1), (fun h9 => (by have z_0 := tk_0; have z_1 := tk_1; (first | (clear h_p0 h_n_nodes h_v_59708 g_v_59708 gi_v_59708 c_59709_i h_59711 c_59712_i; omega) | omega))), (fun h9 => (by have z_0 := tk_0; have z_1 := tk_1; (first | (clear h_p0 h_n_nodes h_v_59708 g_v_59708 gi_v_59708 c_59709_i h_59711 c_59712_i; omega) | omega)))⟩, ht⟩) (fun _ h => nomatch h) dX2_canTake_25
set_option maxHeartbeats 4000000 in
set_option maxRecDepth 100000 in
theorem c_X2_nextNodesN (l : Launch) (D : va_G) (g : Nat → ClassId) (n : Nat) (p0 : Int32) (n_nodes : Int32) (n_kind : Nat) (n_pay : Nat) (n_name : Nat) (n_ways : Nat) (n_held : Nat) (n_targets : Nat) (n_weights : Nat) (n_fways : Nat → Int32) (n_fheld : Nat → Int32) (n_ftargets : Nat → Int32) (h_p0 : 0 ≤ (p0 : Int32).toInt ∧ (p0 : Int32).toInt ≤ 11) (h_n_nodes : 0 ≤ (n_nodes : Int32).toInt ∧ (n_nodes : Int32).toInt ≤ 12) (h_n_fways : ∀ j : Nat, 0 ≤ (n_fways j).toInt ∧ (n_fways j).toInt ≤ 3) (h_n_fheld : ∀ j : Nat, (-1) ≤ (n_fheld j).toInt ∧ (n_fheld j).toInt ≤ 2) (h_n_ftargets : ∀ j : Nat, 0 ≤ (n_ftargets j).toInt ∧ (n_ftargets j).toInt ≤ 11) : Met l yX2_nextNodes (.code yX2_nextNodes cX2_nextNodes 4 (some .int) :: wsL_law) ({ frames := 1, cells := 0, slots := 0, locals := 22 }) (va_Pc [.ref n, .int p0] (fun U => va_P D vwCl [(wO2 n n_nodes n_kind n_pay n_name n_ways n_held n_targets n_weights), (wI g n_ways 0 12 n_fways), (wI g n_held 0 12 n_fheld), (wI g n_targets 0 36 n_ftargets)] U.heap ∧ va_K D vwCl (TY g) U)) (vp_Si (fun r => (0 ≤ (r : Int32).toInt ∧ (r : Int32).toInt ≤ 4095) ∧ ((r : Int32) = ahF (n_fheld (p0 : Int32).toInt.toNat).toInt (fun i => n_ftargets (3 * (p0 : Int32).toInt.toNat + i)) (n_fways (p0 : Int32).toInt.toNat).toInt.toNat))) 0 0 (fun _ => False) := by
  refine Met.ofW (cc := cX2_nextNodes) (maxL := 4) (ret := (some .int)) (by decide) rfl ?_
  intro p e s m args below meth c s₁ B hml hv
  obtain ⟨ha, hP, hK⟩ := hv
  have hx := B.exec
  have hb := B.bytes
  have hr := B.returns
  have hts0 := atoms_spec (ws := (.code yX2_nextNodes cX2_nextNodes 4 (some .int) :: wsL_law)) B.pre
  have hts : ∀ w ∈ wsL_law, w.before args s = true := fun w h => hts0 w (List.mem_cons_of_mem _ h)
  have hown : s.vm.findClass RX2 = some m.cls := findClass_of_methodNamed B.named
  have hlocks := B.notSynchronized
  have hP : va_P D vwCl [(wO2 n n_nodes n_kind n_pay n_name n_ways n_held n_targets n_weights), (wI g n_ways 0 12 n_fways), (wI g n_held 0 12 n_fheld), (wI g n_targets 0 36 n_ftargets)] s.heap := hP
  refine W.eq (g2 := entryFrame m ([.ref n, .int p0] : List Value).toArray 4) (by rw [ha]) ?_
  have hl := lv_entry ([.ref n, .int p0]) (n := 4) (Nat.le_of_ble_eq_true rfl)
  rw [lg_entry_eq]
  generalize (lg_sl ([.ref n, .int p0]) ++ List.replicate (4 - (lg_sl ([.ref n, .int p0])).length) Slot.unset).toArray = ls at hl ⊢
  have hl : lv_has ls 4 [(0, .ref n), (1, .int p0)] := hl
  refine lv_iconst (v := 0) hx hb dX2_nextNodes_0 (by decide) ?_
  refine lv_istore_n (lv' := [(2, .int 0), (0, .ref n), (1, .int p0)]) hx hb dX2_nextNodes_1 rfl hl (by decide) rfl (fun ls hl => ?_)
  refine lv_iconst (v := 0) hx hb dX2_nextNodes_2 (by decide) ?_
  refine lv_istore_n (lv' := [(3, .int 0), (2, .int 0), (0, .ref n), (1, .int p0)]) hx hb dX2_nextNodes_3 rfl hl (by decide) rfl (fun ls hl => ?_)
  have lp_59732 : ∀ (n_59732 : Nat) (x_59730 : Int32) (x_59731 : Int32) (ls : Array Slot), (0 ≤ (x_59730 : Int32).toInt ∧ (x_59730 : Int32).toInt ≤ 4095) → (0 ≤ (x_59731 : Int32).toInt ∧ (x_59731 : Int32).toInt ≤ 3) → ((x_59730 : Int32) = ahF (n_fheld (p0 : Int32).toInt.toNat).toInt (fun i => n_ftargets (3 * (p0 : Int32).toInt.toNat + i)) x_59731.toInt.toNat ∧ x_59731.toInt ≤ (n_fways (p0 : Int32).toInt.toNat).toInt) → (3 - x_59731.toInt < (n_59732 : Int)) → lv_has ls 4 [(3, .int x_59731), (2, .int x_59730), (0, .ref n), (1, .int p0)] → W p l e (headSpec (.code yX2_nextNodes cX2_nextNodes 4 (some .int) :: wsL_law) ({ frames := 1, cells := 0, slots := 0, locals := 22 })).room s m args below meth c s.heap [] 0 0 (MQ below (vp_Si (fun r => (0 ≤ (r : Int32).toInt ∧ (r : Int32).toInt ≤ 4095) ∧ ((r : Int32) = ahF (n_fheld (p0 : Int32).toInt.toNat).toInt (fun i => n_ftargets (3 * (p0 : Int32).toInt.toNat + i)) (n_fways (p0 : Int32).toInt.toNat).toInt.toNat))) args s 0 0 (fun _ => False)) (F0 m 4 ls []) := by
    intro n_59732
    induction n_59732 with
    | zero =>
      intro x_59730 x_59731 ls h_x_59730 h_x_59731 hr59732_0 hm_59732 hl
      exfalso; omega
    | succ n_59732 ih_59732 =>
      intro x_59730 x_59731 ls h_x_59730 h_x_59731 hr59732_0 hm_59732 hl
      refine lv_iload_n hx hb dX2_nextNodes_4 rfl (lv_at hl 0 rfl) ?_
      refine lv_aload_n hx hb dX2_nextNodes_5 rfl (lv_at hl 2 rfl) ?_
      refine va_get (D := D) (ci := 2) (v := .ref n_ways) (C := RX2) (T := TX2) (N := 8) hx hb hts inlX2 hown hK hP 0 rfl rfl 4 (by decide) (hts (Cond.fieldLink RX2 21 "ChanceRings$Net" "ways" "[I") qw_318) (fun _ h9 => h9) rfl dX2_nextNodes_6 ?_
      refine lv_iload_n hx hb dX2_nextNodes_9 rfl (lv_at hl 3 rfl) ?_
      refine va_iald hx hb hK hP 1 0 rfl rfl (tr_in h_p0 (by decide) (by decide)) dX2_nextNodes_10 ?_
      refine lv_topi (fun v_59733 v_59733_e => ?_)
      have h_v_59733 : 0 ≤ (v_59733 : Int32).toInt ∧ (v_59733 : Int32).toInt ≤ 3 := by rw [v_59733_e]; exact h_n_fways _
      have g_v_59733 : v_59733 = n_fways (p0.toInt.toNat) := v_59733_e.trans (congrArg n_fways rfl)
      have gi_v_59733 := congrArg Int32.toInt g_v_59733
      refine lv_icmp_ge (tgt := 40) hx hb dX2_nextNodes_11 (by decide) (fun c_59734 => ?_) (fun c_59734 => ?_)
      · skip
        have c_59734_i := Int32.le_iff_toInt_le.mp c_59734
        refine lv_iload_n hx hb dX2_nextNodes_40 rfl (lv_at hl 1 rfl) ?_
        exact W.iret (v := x_59730) hx hb hr (fun t ht hW => ⟨x_59730, rfl, ⟨(tr_w h_x_59730 (by decide) (by decide)), (hr59732_0.1.trans (congrArg (ahF (n_fheld (p0 : Int32).toInt.toNat).toInt (fun i => n_ftargets (3 * (p0 : Int32).toInt.toNat + i))) (by have q8 := gi_v_59733; omega)))⟩, ht⟩) (fun _ h => nomatch h) dX2_nextNodes_41
      · skip
        have c_59734_i := Int32.lt_iff_toInt_lt.mp (Int32.not_le.mp c_59734)
        have h_59735 : 0 ≤ (x_59731 : Int32).toInt ∧ (x_59731 : Int32).toInt ≤ 2 := nr_lt_l h_x_59731 h_v_59733 c_59734_i (by decide) (by decide)
        have h_59736 : 1 ≤ (v_59733 : Int32).toInt ∧ (v_59733 : Int32).toInt ≤ 3 := nr_lt_r h_x_59731 h_v_59733 c_59734_i (by decide) (by decide)
        refine lv_aload_n hx hb dX2_nextNodes_14 rfl (lv_at hl 2 rfl) ?_
        refine lv_iload_n hx hb dX2_nextNodes_15 rfl (lv_at hl 3 rfl) ?_
        refine lv_iload_n hx hb dX2_nextNodes_16 rfl (lv_at hl 0 rfl) ?_
        have hPc := hP.sub (ws' := [(wO2 n n_nodes n_kind n_pay n_name n_ways n_held n_targets n_weights), (wI g n_held 0 12 n_fheld)]) [0, 2] rfl
        refine vp_callSi (va_Run.run (va_runV (As := [.int p0, .int x_59731]) (rest := []) ⟨hx, hb, hml, hown, hts⟩ (c_X2_canTakeN l D g n p0 x_59731 n_nodes n_kind n_pay n_name n_ways n_held n_targets n_weights n_fheld (tr_w h_p0 (by decide) (by decide)) (tr_w h_n_nodes (by decide) (by decide)) (tr_wa h_n_fheld (by decide) (by decide))) (cwV 2 hts (tz_gV qw_319 qw_320 qw_321 qw_322 qw_323) rfl rfl rfl (by decide +kernel) ⟨Nat.le_of_ble_eq_true rfl, Nat.le_of_ble_eq_true rfl⟩) ⟨tz_blS, va_recv hK hPc (ci := 2) (q0 := 0) rfl rfl, tz_preS hPc hK⟩ rfl rfl hl.1 rfl (lv_room (Nat.le_of_ble_eq_true rfl)) dX2_nextNodes_17 ⟨Nat.le_of_ble_eq_true rfl, Nat.le_of_ble_eq_true rfl⟩)) (fun r_59737 hw => ?_)
        have hw_59738 : 0 ≤ (r_59737 : Int32).toInt ∧ (r_59737 : Int32).toInt ≤ 1 := hw.1
        have hw_59738_p0 : Hide (¬ (r_59737 : Int32).toInt = 0 → ((n_fheld (p0 : Int32).toInt.toNat).toInt = -1 ∨ (n_fheld (p0 : Int32).toInt.toNat).toInt = (x_59731 : Int32).toInt)) := hw.2.1
        have hw_59738_p1 : Hide ((r_59737 : Int32).toInt = 0 → ¬ ((n_fheld (p0 : Int32).toInt.toNat).toInt = -1 ∨ (n_fheld (p0 : Int32).toInt.toNat).toInt = (x_59731 : Int32).toInt)) := hw.2.2
        refine lv_if_eq (tgt := 34) hx hb dX2_nextNodes_20 (by decide) (fun c_59739 => ?_) (fun c_59739 => ?_)
        · skip
          have kk_0 := tk_0
          have c_59739_i : (r_59737 : Int32).toInt = (0 : Int32).toInt := congrArg Int32.toInt c_59739
          have hw_59738_p1_u := (hw_59738_p1).get (c_59739_i.trans tk_0)
          have h_59740 : 0 ≤ (r_59737 : Int32).toInt ∧ (r_59737 : Int32).toInt ≤ 0 := nr_eq_l hw_59738 (⟨by decide, by decide⟩ : 0 ≤ (0 : Int32).toInt ∧ (0 : Int32).toInt ≤ 0) c_59739_i (by decide) (by decide)
          obtain ⟨v_59742, v_59742_e⟩ : ∃ y : Int32, y = x_59731 + Int32.ofInt 1 := ⟨_, rfl⟩
          have h_v_59742 : 1 ≤ (v_59742 : Int32).toInt ∧ (v_59742 : Int32).toInt ≤ 3 := by rw [v_59742_e]; exact tr_add h_59735 (⟨by decide, by decide⟩ : 1 ≤ (Int32.ofInt 1 : Int32).toInt ∧ (Int32.ofInt 1 : Int32).toInt ≤ 1) (by decide) (by decide) (by decide) (by decide)
          have q_v_59742 : v_59742.toInt = x_59731.toInt + 1 := by rw [v_59742_e]; exact tr_addE h_59735 (⟨by decide, by decide⟩ : 1 ≤ (Int32.ofInt 1 : Int32).toInt ∧ (Int32.ofInt 1 : Int32).toInt ≤ 1) (by decide) (by decide)
          refine lv_iinc (v := v_59742) (lv' := [(3, .int v_59742), (2, .int x_59730), (0, .ref n), (1, .int p0)]) hx hb dX2_nextNodes_34 hl (k := 0) rfl v_59742_e.symm (by decide) rfl (fun ls hl => ?_)
          refine lv_goto (tgt := 4) hx hb dX2_nextNodes_37 (by decide) ?_
          exact ih_59732 x_59730 v_59742 ls (tr_w h_x_59730 (by decide) (by decide)) (tr_w h_v_59742 (by decide) (by decide)) ⟨ahF_n hr59732_0.1 (by (first | (clear h_n_nodes hw_59738 c_59739_i h_59740; omega) | omega)) (by have q9 := hw_59738_p1_u; (first | (clear h_n_nodes hw_59738 c_59739_i h_59740; omega) | omega)) rfl, (by have q8 := gi_v_59733; (first | (clear h_n_nodes hw_59738 c_59739_i h_59740; omega) | omega))⟩ (by (first | (clear h_n_nodes hw_59738 c_59739_i h_59740; omega) | omega)) (lv_sub hl [0, 1, 2, 3] rfl)
        · skip
          have kk_0 := tk_0
          have c_59739_i : ¬ (r_59737 : Int32).toInt = (0 : Int32).toInt := (fun q => c_59739 (Int32.toInt_inj.mp q))
          have hw_59738_p0_u := (hw_59738_p0).get (fun q => c_59739_i (q.trans tk_0.symm))
          have h_59741 : 1 ≤ (r_59737 : Int32).toInt ∧ (r_59737 : Int32).toInt ≤ 1 := nr_ne_l hw_59738 (⟨by decide, by decide⟩ : 0 ≤ (0 : Int32).toInt ∧ (0 : Int32).toInt ≤ 0) c_59739_i (by decide) (by decide)
          refine lv_iload_n hx hb dX2_nextNodes_23 rfl (lv_at hl 1 rfl) ?_
          refine lv_iconst (v := 1) hx hb dX2_nextNodes_24 (by decide) ?_
          refine lv_aload_n hx hb dX2_nextNodes_25 rfl (lv_at hl 2 rfl) ?_
          refine lv_iload_n hx hb dX2_nextNodes_26 rfl (lv_at hl 3 rfl) ?_
          refine lv_iload_n hx hb dX2_nextNodes_27 rfl (lv_at hl 0 rfl) ?_
          have hPc := hP.sub (ws' := [(wO2 n n_nodes n_kind n_pay n_name n_ways n_held n_targets n_weights), (wI g n_targets 0 36 n_ftargets)]) [0, 3] rfl
          refine vp_callSi (va_Run.run (va_runV (As := [.int p0, .int x_59731]) (rest := [.int 1, .int x_59730]) ⟨hx, hb, hml, hown, hts⟩ (c_X2_targetN l D g n p0 x_59731 n_nodes n_kind n_pay n_name n_ways n_held n_targets n_weights n_ftargets (tr_w h_p0 (by decide) (by decide)) (tr_w h_59735 (by decide) (by decide)) (tr_w h_n_nodes (by decide) (by decide)) (tr_wa h_n_ftargets (by decide) (by decide))) (cwV 2 hts (tz_gV qw_324 qw_325 qw_326 qw_322 qw_327) rfl rfl rfl (by decide +kernel) ⟨Nat.le_of_ble_eq_true rfl, Nat.le_of_ble_eq_true rfl⟩) ⟨tz_blS, va_recv hK hPc (ci := 2) (q0 := 0) rfl rfl, tz_preS hPc hK⟩ rfl rfl hl.1 rfl (lv_room (Nat.le_of_ble_eq_true rfl)) dX2_nextNodes_28 ⟨Nat.le_of_ble_eq_true rfl, Nat.le_of_ble_eq_true rfl⟩)) (fun r_59743 hw => ?_)
          have hw_59744 : 0 ≤ (r_59743 : Int32).toInt ∧ (r_59743 : Int32).toInt ≤ 11 := hw.1
          have hw_59744_p0 : (r_59743 : Int32).toInt = (n_ftargets (3 * (p0 : Int32).toInt.toNat + (x_59731 : Int32).toInt.toNat)).toInt := hw.2
          refine lv_ishl hx hb dX2_nextNodes_31 ?_
          refine lv_topi (fun v_59745 v_59745_e => ?_)
          have h_v_59745 : 0 ≤ (v_59745 : Int32).toInt ∧ (v_59745 : Int32).toInt ≤ 4095 := by rw [v_59745_e]; exact tr_shl12 (tr_w hw_59744 (by decide) (by decide))
          refine lv_ior hx hb dX2_nextNodes_32 ?_
          refine lv_topi (fun v_59746 v_59746_e => ?_)
          have h_v_59746 : 0 ≤ (v_59746 : Int32).toInt ∧ (v_59746 : Int32).toInt ≤ 4095 := by rw [v_59746_e]; exact (tr_or12 (tr_w h_x_59730 (by decide) (by decide)) (tr_w h_v_59745 (by decide) (by decide))).1
          have o_v_59746 : (x_59730 : Int32).toInt ≤ (v_59746 : Int32).toInt := by rw [v_59746_e]; exact (tr_or12 (tr_w h_x_59730 (by decide) (by decide)) (tr_w h_v_59745 (by decide) (by decide))).2
          refine lv_istore_n (lv' := [(2, .int v_59746), (3, .int x_59731), (0, .ref n), (1, .int p0)]) hx hb dX2_nextNodes_33 rfl hl (by decide) rfl (fun ls hl => ?_)
          obtain ⟨v_59747, v_59747_e⟩ : ∃ y : Int32, y = x_59731 + Int32.ofInt 1 := ⟨_, rfl⟩
          have h_v_59747 : 1 ≤ (v_59747 : Int32).toInt ∧ (v_59747 : Int32).toInt ≤ 3 := by rw [v_59747_e]; exact tr_add h_59735 (⟨by decide, by decide⟩ : 1 ≤ (Int32.ofInt 1 : Int32).toInt ∧ (Int32.ofInt 1 : Int32).toInt ≤ 1) (by decide) (by decide) (by decide) (by decide)
          have q_v_59747 : v_59747.toInt = x_59731.toInt + 1 := by rw [v_59747_e]; exact tr_addE h_59735 (⟨by decide, by decide⟩ : 1 ≤ (Int32.ofInt 1 : Int32).toInt ∧ (Int32.ofInt 1 : Int32).toInt ≤ 1) (by decide) (by decide)
          refine lv_iinc (v := v_59747) (lv' := [(3, .int v_59747), (2, .int v_59746), (0, .ref n), (1, .int p0)]) hx hb dX2_nextNodes_34 hl (k := 1) rfl v_59747_e.symm (by decide) rfl (fun ls hl => ?_)
          refine lv_goto (tgt := 4) hx hb dX2_nextNodes_37 (by decide) ?_
          exact ih_59732 v_59746 v_59747 ls (tr_w h_v_59746 (by decide) (by decide)) (tr_w h_v_59747 (by decide) (by decide)) ⟨ahF_y hr59732_0.1 (by (first | (clear h_n_nodes h_x_59730 hw_59738 c_59739_i h_59741 h_v_59745; omega) | omega)) (by have q9 := hw_59738_p0_u; (first | (clear h_n_nodes h_x_59730 hw_59738 c_59739_i h_59741 h_v_59745; omega) | omega)) (Int32.toInt_inj.mp hw_59744_p0) v_59745_e v_59746_e, (by have q8 := gi_v_59733; (first | (clear h_n_nodes h_x_59730 hw_59738 c_59739_i h_59741 h_v_59745; omega) | omega))⟩ (by (first | (clear h_n_nodes h_x_59730 hw_59738 c_59739_i h_59741 h_v_59745; omega) | omega)) (lv_sub hl [0, 1, 2, 3] rfl)
  exact lp_59732 4 0 0 ls (⟨by decide, by decide⟩ : 0 ≤ (0 : Int32).toInt ∧ (0 : Int32).toInt ≤ 4095) (⟨by decide, by decide⟩ : 0 ≤ (0 : Int32).toInt ∧ (0 : Int32).toInt ≤ 3) ⟨rfl, by have q7 := h_n_fways (p0 : Int32).toInt.toNat; have z_0 := tk_0; omega⟩ (by decide) (lv_sub hl [0, 1, 2, 3] rfl)
theorem qw_334 : Cond.fieldLink RX10 9 "ChanceRings$Values" "part" "[J" ∈ wsL_law := tseg_2 (by decide +kernel) (List.mem_of_getElem? (i := 87) (by decide +kernel))
theorem qw_335 : Cond.fieldLink RX10 15 "ChanceRings$Values" "whole" "J" ∈ wsL_law := tseg_2 (by decide +kernel) (List.mem_of_getElem? (i := 92) (by decide +kernel))
theorem qw_336 : Cond.methodLink RX10 19 yX10_commonDivisor ∈ wsL_law := tseg_5 (by decide +kernel) (List.mem_of_getElem? (i := 75) (by decide +kernel))
theorem qw_337 : Cond.static yX10_commonDivisor ∈ wsL_law := tseg_5 (by decide +kernel) (List.mem_of_getElem? (i := 76) (by decide +kernel))
theorem qw_338 : Cond.initialized RX10 ∈ wsL_law := tseg_1 (by decide +kernel) (List.mem_of_getElem? (i := 16) (by decide +kernel))
theorem qw_339 : Cond.code yX10_commonDivisor cX10_commonDivisor 11 (some .long) ∈ wsL_law := tseg_5 (by decide +kernel) (List.mem_of_getElem? (i := 77) (by decide +kernel))
theorem qw_340 : Cond.fieldLink RX8 15 "ChanceRings$Tape" "length" "I" ∈ wsL_law := tseg_1 (by decide +kernel) (List.mem_of_getElem? (i := 40) (by decide +kernel))
theorem qw_341 : Cond.fieldLink RX8 9 "ChanceRings$Tape" "bytes" "[I" ∈ wsL_law := tseg_1 (by decide +kernel) (List.mem_of_getElem? (i := 37) (by decide +kernel))
theorem qw_342 : Cond.methodLink RX2 37 arraycopyName ∈ wsL_law := tseg_3 (by decide +kernel) (List.mem_of_getElem? (i := 61) (by decide +kernel))
theorem qw_343 : Cond.native arraycopyName ∈ wsL_law := tseg_3 (by decide +kernel) (List.mem_of_getElem? (i := 63) (by decide +kernel))
theorem qw_344 : Cond.static arraycopyName ∈ wsL_law := tseg_3 (by decide +kernel) (List.mem_of_getElem? (i := 62) (by decide +kernel))
theorem qw_345 : Cond.initialized "java/lang/System" ∈ wsL_law := tseg_1 (by decide +kernel) (List.mem_of_getElem? (i := 18) (by decide +kernel))
theorem dX10_commonDivisor_0 : decode cX10_commonDivisor 0 = .ok (.lload_n 0, 1) := by decide +kernel
theorem dX10_commonDivisor_1 : decode cX10_commonDivisor 1 = .ok (.lstore 4, 2) := by decide +kernel
theorem dX10_commonDivisor_3 : decode cX10_commonDivisor 3 = .ok (.lload_n 2, 1) := by decide +kernel
theorem dX10_commonDivisor_4 : decode cX10_commonDivisor 4 = .ok (.lstore 6, 2) := by decide +kernel
theorem dX10_commonDivisor_6 : decode cX10_commonDivisor 6 = .ok (.iconst 0, 1) := by decide +kernel
theorem dX10_commonDivisor_7 : decode cX10_commonDivisor 7 = .ok (.istore 8, 2) := by decide +kernel
theorem dX10_commonDivisor_9 : decode cX10_commonDivisor 9 = .ok (.iload 8, 2) := by decide +kernel
theorem dX10_commonDivisor_11 : decode cX10_commonDivisor 11 = .ok (.bipush 100, 2) := by decide +kernel
theorem dX10_commonDivisor_13 : decode cX10_commonDivisor 13 = .ok (.if_icmp .ge 31, 3) := by decide +kernel
theorem dX10_commonDivisor_16 : decode cX10_commonDivisor 16 = .ok (.lload 6, 2) := by decide +kernel
theorem dX10_commonDivisor_18 : decode cX10_commonDivisor 18 = .ok (.lconst 0, 1) := by decide +kernel
theorem dX10_commonDivisor_19 : decode cX10_commonDivisor 19 = .ok (.lcmp, 1) := by decide +kernel
theorem dX10_commonDivisor_20 : decode cX10_commonDivisor 20 = .ok (.ifCond .eq 24, 3) := by decide +kernel
theorem dX10_commonDivisor_23 : decode cX10_commonDivisor 23 = .ok (.lload 4, 2) := by decide +kernel
theorem dX10_commonDivisor_25 : decode cX10_commonDivisor 25 = .ok (.lload 6, 2) := by decide +kernel
theorem dX10_commonDivisor_27 : decode cX10_commonDivisor 27 = .ok (.lrem, 1) := by decide +kernel
theorem dX10_commonDivisor_28 : decode cX10_commonDivisor 28 = .ok (.lstore 9, 2) := by decide +kernel
theorem dX10_commonDivisor_30 : decode cX10_commonDivisor 30 = .ok (.lload 6, 2) := by decide +kernel
theorem dX10_commonDivisor_32 : decode cX10_commonDivisor 32 = .ok (.lstore 4, 2) := by decide +kernel
theorem dX10_commonDivisor_34 : decode cX10_commonDivisor 34 = .ok (.lload 9, 2) := by decide +kernel
theorem dX10_commonDivisor_36 : decode cX10_commonDivisor 36 = .ok (.lstore 6, 2) := by decide +kernel
theorem dX10_commonDivisor_38 : decode cX10_commonDivisor 38 = .ok (.iinc 8 1, 3) := by decide +kernel
theorem dX10_commonDivisor_41 : decode cX10_commonDivisor 41 = .ok (.goto (-32), 3) := by decide +kernel
theorem dX10_commonDivisor_44 : decode cX10_commonDivisor 44 = .ok (.lload 4, 2) := by decide +kernel
theorem dX10_commonDivisor_46 : decode cX10_commonDivisor 46 = .ok (.lreturn, 1) := by decide +kernel
theorem dX10_term_0 : decode cX10_term 0 = .ok (.aload_n 0, 1) := by decide +kernel
theorem dX10_term_1 : decode cX10_term 1 = .ok (.getfield 9, 3) := by decide +kernel
theorem dX10_term_4 : decode cX10_term 4 = .ok (.iload_n 1, 1) := by decide +kernel
theorem dX10_term_5 : decode cX10_term 5 = .ok (.laload, 1) := by decide +kernel
theorem dX10_term_6 : decode cX10_term 6 = .ok (.aload_n 0, 1) := by decide +kernel
theorem dX10_term_7 : decode cX10_term 7 = .ok (.getfield 15, 3) := by decide +kernel
theorem dX10_term_10 : decode cX10_term 10 = .ok (.invokestatic 19, 3) := by decide +kernel
theorem dX10_term_13 : decode cX10_term 13 = .ok (.lstore_n 3, 1) := by decide +kernel
theorem dX10_term_14 : decode cX10_term 14 = .ok (.lload_n 3, 1) := by decide +kernel
theorem dX10_term_15 : decode cX10_term 15 = .ok (.lconst 1, 1) := by decide +kernel
theorem dX10_term_16 : decode cX10_term 16 = .ok (.lcmp, 1) := by decide +kernel
theorem dX10_term_17 : decode cX10_term 17 = .ok (.ifCond .ge 5, 3) := by decide +kernel
theorem dX10_term_20 : decode cX10_term 20 = .ok (.lconst 0, 1) := by decide +kernel
theorem dX10_term_21 : decode cX10_term 21 = .ok (.lreturn, 1) := by decide +kernel
theorem dX10_term_22 : decode cX10_term 22 = .ok (.iload_n 2, 1) := by decide +kernel
theorem dX10_term_23 : decode cX10_term 23 = .ok (.ifCond .ne 12, 3) := by decide +kernel
theorem dX10_term_26 : decode cX10_term 26 = .ok (.aload_n 0, 1) := by decide +kernel
theorem dX10_term_27 : decode cX10_term 27 = .ok (.getfield 9, 3) := by decide +kernel
theorem dX10_term_30 : decode cX10_term 30 = .ok (.iload_n 1, 1) := by decide +kernel
theorem dX10_term_31 : decode cX10_term 31 = .ok (.laload, 1) := by decide +kernel
theorem dX10_term_32 : decode cX10_term 32 = .ok (.goto 7, 3) := by decide +kernel
theorem dX10_term_35 : decode cX10_term 35 = .ok (.aload_n 0, 1) := by decide +kernel
theorem dX10_term_36 : decode cX10_term 36 = .ok (.getfield 15, 3) := by decide +kernel
theorem dX10_term_39 : decode cX10_term 39 = .ok (.lload_n 3, 1) := by decide +kernel
theorem dX10_term_40 : decode cX10_term 40 = .ok (.ldiv, 1) := by decide +kernel
theorem dX10_term_41 : decode cX10_term 41 = .ok (.lreturn, 1) := by decide +kernel
theorem dX2_copyFrom_0 : decode cX2_copyFrom 0 = .ok (.aload_n 0, 1) := by decide +kernel
theorem dX2_copyFrom_1 : decode cX2_copyFrom 1 = .ok (.aload_n 1, 1) := by decide +kernel
theorem dX2_copyFrom_2 : decode cX2_copyFrom 2 = .ok (.getfield 33, 3) := by decide +kernel
theorem dX2_copyFrom_5 : decode cX2_copyFrom 5 = .ok (.putfield 33, 3) := by decide +kernel
theorem dX2_copyFrom_8 : decode cX2_copyFrom 8 = .ok (.aload_n 1, 1) := by decide +kernel
theorem dX2_copyFrom_9 : decode cX2_copyFrom 9 = .ok (.getfield 9, 3) := by decide +kernel
theorem dX2_copyFrom_12 : decode cX2_copyFrom 12 = .ok (.iconst 0, 1) := by decide +kernel
theorem dX2_copyFrom_13 : decode cX2_copyFrom 13 = .ok (.aload_n 0, 1) := by decide +kernel
theorem dX2_copyFrom_14 : decode cX2_copyFrom 14 = .ok (.getfield 9, 3) := by decide +kernel
theorem dX2_copyFrom_17 : decode cX2_copyFrom 17 = .ok (.iconst 0, 1) := by decide +kernel
theorem dX2_copyFrom_18 : decode cX2_copyFrom 18 = .ok (.bipush 12, 2) := by decide +kernel
theorem dX2_copyFrom_20 : decode cX2_copyFrom 20 = .ok (.invokestatic 37, 3) := by decide +kernel
theorem dX2_copyFrom_23 : decode cX2_copyFrom 23 = .ok (.aload_n 1, 1) := by decide +kernel
theorem dX2_copyFrom_24 : decode cX2_copyFrom 24 = .ok (.getfield 15, 3) := by decide +kernel
theorem dX2_copyFrom_27 : decode cX2_copyFrom 27 = .ok (.iconst 0, 1) := by decide +kernel
theorem dX2_copyFrom_28 : decode cX2_copyFrom 28 = .ok (.aload_n 0, 1) := by decide +kernel
theorem dX2_copyFrom_29 : decode cX2_copyFrom 29 = .ok (.getfield 15, 3) := by decide +kernel
theorem dX2_copyFrom_32 : decode cX2_copyFrom 32 = .ok (.iconst 0, 1) := by decide +kernel
theorem dX2_copyFrom_33 : decode cX2_copyFrom 33 = .ok (.bipush 12, 2) := by decide +kernel
theorem dX2_copyFrom_35 : decode cX2_copyFrom 35 = .ok (.invokestatic 37, 3) := by decide +kernel
theorem dX2_copyFrom_38 : decode cX2_copyFrom 38 = .ok (.aload_n 1, 1) := by decide +kernel
theorem dX2_copyFrom_39 : decode cX2_copyFrom 39 = .ok (.getfield 18, 3) := by decide +kernel
theorem dX2_copyFrom_42 : decode cX2_copyFrom 42 = .ok (.iconst 0, 1) := by decide +kernel
theorem dX2_copyFrom_43 : decode cX2_copyFrom 43 = .ok (.aload_n 0, 1) := by decide +kernel
theorem dX2_copyFrom_44 : decode cX2_copyFrom 44 = .ok (.getfield 18, 3) := by decide +kernel
theorem dX2_copyFrom_47 : decode cX2_copyFrom 47 = .ok (.iconst 0, 1) := by decide +kernel
theorem dX2_copyFrom_48 : decode cX2_copyFrom 48 = .ok (.bipush 12, 2) := by decide +kernel
theorem dX2_copyFrom_50 : decode cX2_copyFrom 50 = .ok (.invokestatic 37, 3) := by decide +kernel
theorem dX2_copyFrom_53 : decode cX2_copyFrom 53 = .ok (.aload_n 1, 1) := by decide +kernel
theorem dX2_copyFrom_54 : decode cX2_copyFrom 54 = .ok (.getfield 21, 3) := by decide +kernel
theorem dX2_copyFrom_57 : decode cX2_copyFrom 57 = .ok (.iconst 0, 1) := by decide +kernel
theorem dX2_copyFrom_58 : decode cX2_copyFrom 58 = .ok (.aload_n 0, 1) := by decide +kernel
theorem dX2_copyFrom_59 : decode cX2_copyFrom 59 = .ok (.getfield 21, 3) := by decide +kernel
theorem dX2_copyFrom_62 : decode cX2_copyFrom 62 = .ok (.iconst 0, 1) := by decide +kernel
theorem dX2_copyFrom_63 : decode cX2_copyFrom 63 = .ok (.bipush 12, 2) := by decide +kernel
theorem dX2_copyFrom_65 : decode cX2_copyFrom 65 = .ok (.invokestatic 37, 3) := by decide +kernel
theorem dX2_copyFrom_68 : decode cX2_copyFrom 68 = .ok (.aload_n 1, 1) := by decide +kernel
theorem dX2_copyFrom_69 : decode cX2_copyFrom 69 = .ok (.getfield 24, 3) := by decide +kernel
theorem dX2_copyFrom_72 : decode cX2_copyFrom 72 = .ok (.iconst 0, 1) := by decide +kernel
theorem dX2_copyFrom_73 : decode cX2_copyFrom 73 = .ok (.aload_n 0, 1) := by decide +kernel
theorem dX2_copyFrom_74 : decode cX2_copyFrom 74 = .ok (.getfield 24, 3) := by decide +kernel
theorem dX2_copyFrom_77 : decode cX2_copyFrom 77 = .ok (.iconst 0, 1) := by decide +kernel
theorem dX2_copyFrom_78 : decode cX2_copyFrom 78 = .ok (.bipush 12, 2) := by decide +kernel
theorem dX2_copyFrom_80 : decode cX2_copyFrom 80 = .ok (.invokestatic 37, 3) := by decide +kernel
theorem dX2_copyFrom_83 : decode cX2_copyFrom 83 = .ok (.aload_n 1, 1) := by decide +kernel
theorem dX2_copyFrom_84 : decode cX2_copyFrom 84 = .ok (.getfield 27, 3) := by decide +kernel
theorem dX2_copyFrom_87 : decode cX2_copyFrom 87 = .ok (.iconst 0, 1) := by decide +kernel
theorem dX2_copyFrom_88 : decode cX2_copyFrom 88 = .ok (.aload_n 0, 1) := by decide +kernel
theorem dX2_copyFrom_89 : decode cX2_copyFrom 89 = .ok (.getfield 27, 3) := by decide +kernel
theorem dX2_copyFrom_92 : decode cX2_copyFrom 92 = .ok (.iconst 0, 1) := by decide +kernel
theorem dX2_copyFrom_93 : decode cX2_copyFrom 93 = .ok (.bipush 36, 2) := by decide +kernel
theorem dX2_copyFrom_95 : decode cX2_copyFrom 95 = .ok (.invokestatic 37, 3) := by decide +kernel
theorem dX2_copyFrom_98 : decode cX2_copyFrom 98 = .ok (.aload_n 1, 1) := by decide +kernel
theorem dX2_copyFrom_99 : decode cX2_copyFrom 99 = .ok (.getfield 30, 3) := by decide +kernel
theorem dX2_copyFrom_102 : decode cX2_copyFrom 102 = .ok (.iconst 0, 1) := by decide +kernel
theorem dX2_copyFrom_103 : decode cX2_copyFrom 103 = .ok (.aload_n 0, 1) := by decide +kernel
theorem dX2_copyFrom_104 : decode cX2_copyFrom 104 = .ok (.getfield 30, 3) := by decide +kernel
theorem dX2_copyFrom_107 : decode cX2_copyFrom 107 = .ok (.iconst 0, 1) := by decide +kernel
theorem dX2_copyFrom_108 : decode cX2_copyFrom 108 = .ok (.bipush 36, 2) := by decide +kernel
theorem dX2_copyFrom_110 : decode cX2_copyFrom 110 = .ok (.invokestatic 37, 3) := by decide +kernel
theorem dX2_copyFrom_113 : decode cX2_copyFrom 113 = .ok (.return_, 1) := by decide +kernel
theorem dX8_append_0 : decode cX8_append 0 = .ok (.bipush 24, 2) := by decide +kernel
theorem dX8_append_2 : decode cX8_append 2 = .ok (.istore_n 2, 1) := by decide +kernel
theorem dX8_append_3 : decode cX8_append 3 = .ok (.iload_n 2, 1) := by decide +kernel
theorem dX8_append_4 : decode cX8_append 4 = .ok (.ifCond .lt 45, 3) := by decide +kernel
theorem dX8_append_7 : decode cX8_append 7 = .ok (.aload_n 0, 1) := by decide +kernel
theorem dX8_append_8 : decode cX8_append 8 = .ok (.getfield 15, 3) := by decide +kernel
theorem dX8_append_11 : decode cX8_append 11 = .ok (.sipush 440, 3) := by decide +kernel
theorem dX8_append_14 : decode cX8_append 14 = .ok (.if_icmp .ge 29, 3) := by decide +kernel
theorem dX8_append_17 : decode cX8_append 17 = .ok (.aload_n 0, 1) := by decide +kernel
theorem dX8_append_18 : decode cX8_append 18 = .ok (.getfield 9, 3) := by decide +kernel
theorem dX8_append_21 : decode cX8_append 21 = .ok (.aload_n 0, 1) := by decide +kernel
theorem dX8_append_22 : decode cX8_append 22 = .ok (.getfield 15, 3) := by decide +kernel
theorem dX8_append_25 : decode cX8_append 25 = .ok (.iload_n 1, 1) := by decide +kernel
theorem dX8_append_26 : decode cX8_append 26 = .ok (.iload_n 2, 1) := by decide +kernel
theorem dX8_append_27 : decode cX8_append 27 = .ok (.iushr, 1) := by decide +kernel
theorem dX8_append_28 : decode cX8_append 28 = .ok (.sipush 255, 3) := by decide +kernel
theorem dX8_append_31 : decode cX8_append 31 = .ok (.iand, 1) := by decide +kernel
theorem dX8_append_32 : decode cX8_append 32 = .ok (.iastore, 1) := by decide +kernel
theorem dX8_append_33 : decode cX8_append 33 = .ok (.aload_n 0, 1) := by decide +kernel
theorem dX8_append_34 : decode cX8_append 34 = .ok (.dup, 1) := by decide +kernel
theorem dX8_append_35 : decode cX8_append 35 = .ok (.getfield 15, 3) := by decide +kernel
theorem dX8_append_38 : decode cX8_append 38 = .ok (.iconst 1, 1) := by decide +kernel
theorem dX8_append_39 : decode cX8_append 39 = .ok (.iadd, 1) := by decide +kernel
theorem dX8_append_40 : decode cX8_append 40 = .ok (.putfield 15, 3) := by decide +kernel
theorem dX8_append_43 : decode cX8_append 43 = .ok (.iinc 2 (-8), 3) := by decide +kernel
theorem dX8_append_46 : decode cX8_append 46 = .ok (.goto (-43), 3) := by decide +kernel
theorem dX8_append_49 : decode cX8_append 49 = .ok (.return_, 1) := by decide +kernel
theorem dX8_denominator_0 : decode cX8_denominator 0 = .ok (.aload_n 0, 1) := by decide +kernel
theorem dX8_denominator_1 : decode cX8_denominator 1 = .ok (.getfield 9, 3) := by decide +kernel
theorem dX8_denominator_4 : decode cX8_denominator 4 = .ok (.iconst 2, 1) := by decide +kernel
theorem dX8_denominator_5 : decode cX8_denominator 5 = .ok (.iload_n 1, 1) := by decide +kernel
theorem dX8_denominator_6 : decode cX8_denominator 6 = .ok (.imul, 1) := by decide +kernel
theorem dX8_denominator_7 : decode cX8_denominator 7 = .ok (.iconst 1, 1) := by decide +kernel
theorem dX8_denominator_8 : decode cX8_denominator 8 = .ok (.iadd, 1) := by decide +kernel
theorem dX8_denominator_9 : decode cX8_denominator 9 = .ok (.iaload, 1) := by decide +kernel
theorem dX8_denominator_10 : decode cX8_denominator 10 = .ok (.i2l, 1) := by decide +kernel
theorem dX8_denominator_11 : decode cX8_denominator 11 = .ok (.lreturn, 1) := by decide +kernel
theorem dX8_numerator_0 : decode cX8_numerator 0 = .ok (.aload_n 0, 1) := by decide +kernel
theorem dX8_numerator_1 : decode cX8_numerator 1 = .ok (.getfield 9, 3) := by decide +kernel
theorem dX8_numerator_4 : decode cX8_numerator 4 = .ok (.iconst 2, 1) := by decide +kernel
theorem dX8_numerator_5 : decode cX8_numerator 5 = .ok (.iload_n 1, 1) := by decide +kernel
theorem dX8_numerator_6 : decode cX8_numerator 6 = .ok (.imul, 1) := by decide +kernel
theorem dX8_numerator_7 : decode cX8_numerator 7 = .ok (.iaload, 1) := by decide +kernel
theorem dX8_numerator_8 : decode cX8_numerator 8 = .ok (.i2l, 1) := by decide +kernel
theorem dX8_numerator_9 : decode cX8_numerator 9 = .ok (.lreturn, 1) := by decide +kernel
theorem dX8_tellsFractions_0 : decode cX8_tellsFractions 0 = .ok (.aload_n 0, 1) := by decide +kernel
theorem dX8_tellsFractions_1 : decode cX8_tellsFractions 1 = .ok (.getfield 15, 3) := by decide +kernel
theorem dX8_tellsFractions_4 : decode cX8_tellsFractions 4 = .ok (.iconst 2, 1) := by decide +kernel
theorem dX8_tellsFractions_5 : decode cX8_tellsFractions 5 = .ok (.iload_n 1, 1) := by decide +kernel
theorem dX8_tellsFractions_6 : decode cX8_tellsFractions 6 = .ok (.imul, 1) := by decide +kernel
theorem dX8_tellsFractions_7 : decode cX8_tellsFractions 7 = .ok (.if_icmp .eq 5, 3) := by decide +kernel
theorem dX8_tellsFractions_10 : decode cX8_tellsFractions 10 = .ok (.iconst 0, 1) := by decide +kernel
theorem dX8_tellsFractions_11 : decode cX8_tellsFractions 11 = .ok (.ireturn, 1) := by decide +kernel
theorem dX8_tellsFractions_12 : decode cX8_tellsFractions 12 = .ok (.iconst 0, 1) := by decide +kernel
theorem dX8_tellsFractions_13 : decode cX8_tellsFractions 13 = .ok (.istore_n 2, 1) := by decide +kernel
theorem dX8_tellsFractions_14 : decode cX8_tellsFractions 14 = .ok (.iload_n 2, 1) := by decide +kernel
theorem dX8_tellsFractions_15 : decode cX8_tellsFractions 15 = .ok (.iload_n 1, 1) := by decide +kernel
theorem dX8_tellsFractions_16 : decode cX8_tellsFractions 16 = .ok (.if_icmp .ge 53, 3) := by decide +kernel
theorem dX8_tellsFractions_19 : decode cX8_tellsFractions 19 = .ok (.aload_n 0, 1) := by decide +kernel
theorem dX8_tellsFractions_20 : decode cX8_tellsFractions 20 = .ok (.getfield 9, 3) := by decide +kernel
theorem dX8_tellsFractions_23 : decode cX8_tellsFractions 23 = .ok (.iconst 2, 1) := by decide +kernel
theorem dX8_tellsFractions_24 : decode cX8_tellsFractions 24 = .ok (.iload_n 2, 1) := by decide +kernel
theorem dX8_tellsFractions_25 : decode cX8_tellsFractions 25 = .ok (.imul, 1) := by decide +kernel
theorem dX8_tellsFractions_26 : decode cX8_tellsFractions 26 = .ok (.iaload, 1) := by decide +kernel
theorem dX8_tellsFractions_27 : decode cX8_tellsFractions 27 = .ok (.bipush 127, 2) := by decide +kernel
theorem dX8_tellsFractions_29 : decode cX8_tellsFractions 29 = .ok (.if_icmp .gt 32, 3) := by decide +kernel
theorem dX8_tellsFractions_32 : decode cX8_tellsFractions 32 = .ok (.aload_n 0, 1) := by decide +kernel
theorem dX8_tellsFractions_33 : decode cX8_tellsFractions 33 = .ok (.getfield 9, 3) := by decide +kernel
theorem dX8_tellsFractions_36 : decode cX8_tellsFractions 36 = .ok (.iconst 2, 1) := by decide +kernel
theorem dX8_tellsFractions_37 : decode cX8_tellsFractions 37 = .ok (.iload_n 2, 1) := by decide +kernel
theorem dX8_tellsFractions_38 : decode cX8_tellsFractions 38 = .ok (.imul, 1) := by decide +kernel
theorem dX8_tellsFractions_39 : decode cX8_tellsFractions 39 = .ok (.iconst 1, 1) := by decide +kernel
theorem dX8_tellsFractions_40 : decode cX8_tellsFractions 40 = .ok (.iadd, 1) := by decide +kernel
theorem dX8_tellsFractions_41 : decode cX8_tellsFractions 41 = .ok (.iaload, 1) := by decide +kernel
theorem dX8_tellsFractions_42 : decode cX8_tellsFractions 42 = .ok (.bipush 127, 2) := by decide +kernel
theorem dX8_tellsFractions_44 : decode cX8_tellsFractions 44 = .ok (.if_icmp .gt 17, 3) := by decide +kernel
theorem dX8_tellsFractions_47 : decode cX8_tellsFractions 47 = .ok (.aload_n 0, 1) := by decide +kernel
theorem dX8_tellsFractions_48 : decode cX8_tellsFractions 48 = .ok (.getfield 9, 3) := by decide +kernel
theorem dX8_tellsFractions_51 : decode cX8_tellsFractions 51 = .ok (.iconst 2, 1) := by decide +kernel
theorem dX8_tellsFractions_52 : decode cX8_tellsFractions 52 = .ok (.iload_n 2, 1) := by decide +kernel
theorem dX8_tellsFractions_53 : decode cX8_tellsFractions 53 = .ok (.imul, 1) := by decide +kernel
theorem dX8_tellsFractions_54 : decode cX8_tellsFractions 54 = .ok (.iconst 1, 1) := by decide +kernel
theorem dX8_tellsFractions_55 : decode cX8_tellsFractions 55 = .ok (.iadd, 1) := by decide +kernel
theorem dX8_tellsFractions_56 : decode cX8_tellsFractions 56 = .ok (.iaload, 1) := by decide +kernel
theorem dX8_tellsFractions_57 : decode cX8_tellsFractions 57 = .ok (.iconst 1, 1) := by decide +kernel
theorem dX8_tellsFractions_58 : decode cX8_tellsFractions 58 = .ok (.if_icmp .ge 5, 3) := by decide +kernel
theorem dX8_tellsFractions_61 : decode cX8_tellsFractions 61 = .ok (.iconst 0, 1) := by decide +kernel
theorem dX8_tellsFractions_62 : decode cX8_tellsFractions 62 = .ok (.ireturn, 1) := by decide +kernel
theorem dX8_tellsFractions_63 : decode cX8_tellsFractions 63 = .ok (.iinc 2 1, 3) := by decide +kernel
theorem dX8_tellsFractions_66 : decode cX8_tellsFractions 66 = .ok (.goto (-52), 3) := by decide +kernel
theorem dX8_tellsFractions_69 : decode cX8_tellsFractions 69 = .ok (.iconst 1, 1) := by decide +kernel
theorem dX8_tellsFractions_70 : decode cX8_tellsFractions 70 = .ok (.ireturn, 1) := by decide +kernel
set_option maxHeartbeats 4000000 in
set_option maxRecDepth 100000 in
theorem c_X10_commonDivisor (l : Launch) (D : va_G) (g : Nat → ClassId) (a0 : Int64) (a1 : Int64) : Met l yX10_commonDivisor (.code yX10_commonDivisor cX10_commonDivisor 11 (some .long) :: wsL_law) ({ frames := 0, cells := 0, slots := 0, locals := 0 }) (va_Pc [.long a0, .long a1] (fun U => va_P D vwCl [] U.heap ∧ va_K D vwCl (TY g) U)) (vp_Sl (fun r => True)) 0 0 (fun _ => False) := by
  refine Met.ofW (cc := cX10_commonDivisor) (maxL := 11) (ret := (some .long)) (by decide) rfl ?_
  intro p e s m args below meth c s₁ B hml hv
  obtain ⟨ha, hP, hK⟩ := hv
  have hx := B.exec
  have hb := B.bytes
  have hr := B.returns
  have hts0 := atoms_spec (ws := (.code yX10_commonDivisor cX10_commonDivisor 11 (some .long) :: wsL_law)) B.pre
  have hts : ∀ w ∈ wsL_law, w.before args s = true := fun w h => hts0 w (List.mem_cons_of_mem _ h)
  have hown : s.vm.findClass RX10 = some m.cls := findClass_of_methodNamed B.named
  have hlocks := B.notSynchronized
  have hP : va_P D vwCl [] s.heap := hP
  refine W.eq (g2 := entryFrame m ([.long a0, .long a1] : List Value).toArray 11) (by rw [ha]) ?_
  have hl := lv_entry ([.long a0, .long a1]) (n := 11) (Nat.le_of_ble_eq_true rfl)
  rw [lg_entry_eq]
  generalize (lg_sl ([.long a0, .long a1]) ++ List.replicate (11 - (lg_sl ([.long a0, .long a1])).length) Slot.unset).toArray = ls at hl ⊢
  have hl : lv_has ls 11 [(0, .long a0), (2, .long a1)] := hl
  refine lv_lload_n hx hb dX10_commonDivisor_0 rfl (lv_at hl 0 rfl) ?_
  refine lv_lstore (lv' := [(4, .long a0), (0, .long a0), (2, .long a1)]) hx hb dX10_commonDivisor_1 hl (by decide) rfl (fun ls hl => ?_)
  refine lv_lload_n hx hb dX10_commonDivisor_3 rfl (lv_at hl 2 rfl) ?_
  refine lv_lstore (lv' := [(6, .long a1), (4, .long a0), (0, .long a0), (2, .long a1)]) hx hb dX10_commonDivisor_4 hl (by decide) rfl (fun ls hl => ?_)
  refine lv_iconst (v := 0) hx hb dX10_commonDivisor_6 (by decide) ?_
  refine lv_istore (lv' := [(8, .int 0), (6, .long a1), (4, .long a0), (0, .long a0), (2, .long a1)]) hx hb dX10_commonDivisor_7 hl (by decide) rfl (fun ls hl => ?_)
  have lp_59868 : ∀ (n_59868 : Nat) (x_59865 : Int32) (x_59866 : Int64) (x_59867 : Int64) (ls : Array Slot), (0 ≤ (x_59865 : Int32).toInt ∧ (x_59865 : Int32).toInt ≤ 100) → (100 - x_59865.toInt < (n_59868 : Int)) → lv_has ls 11 [(8, .int x_59865), (6, .long x_59866), (4, .long x_59867), (0, .long a0), (2, .long a1)] → W p l e (headSpec (.code yX10_commonDivisor cX10_commonDivisor 11 (some .long) :: wsL_law) ({ frames := 0, cells := 0, slots := 0, locals := 0 })).room s m args below meth c s.heap [] 0 0 (MQ below (vp_Sl (fun r => True)) args s 0 0 (fun _ => False)) (F0 m 9 ls []) := by
    intro n_59868
    induction n_59868 with
    | zero =>
      intro x_59865 x_59866 x_59867 ls h_x_59865 hm_59868 hl
      exfalso; omega
    | succ n_59868 ih_59868 =>
      intro x_59865 x_59866 x_59867 ls h_x_59865 hm_59868 hl
      refine lv_iload hx hb dX10_commonDivisor_9 (lv_at hl 0 rfl) ?_
      refine lv_bipush (v := 100) hx hb dX10_commonDivisor_11 (by decide) ?_
      refine lv_icmp_ge (tgt := 44) hx hb dX10_commonDivisor_13 (by decide) (fun c_59869 => ?_) (fun c_59869 => ?_)
      · skip
        have c_59869_i := Int32.le_iff_toInt_le.mp c_59869
        have h_59870 : 100 ≤ (x_59865 : Int32).toInt ∧ (x_59865 : Int32).toInt ≤ 100 := nr_le_r (⟨by decide, by decide⟩ : 100 ≤ (100 : Int32).toInt ∧ (100 : Int32).toInt ≤ 100) h_x_59865 c_59869_i (by decide) (by decide)
        refine lv_lload hx hb dX10_commonDivisor_44 (lv_at hl 2 rfl) ?_
        exact W.lret (v := x_59867) hx hb hr (fun t ht hW => ⟨x_59867, rfl, trivial, ht⟩) (fun _ h => nomatch h) dX10_commonDivisor_46
      · skip
        have c_59869_i := Int32.lt_iff_toInt_lt.mp (Int32.not_le.mp c_59869)
        have h_59871 : 0 ≤ (x_59865 : Int32).toInt ∧ (x_59865 : Int32).toInt ≤ 99 := nr_lt_l h_x_59865 (⟨by decide, by decide⟩ : 100 ≤ (100 : Int32).toInt ∧ (100 : Int32).toInt ≤ 100) c_59869_i (by decide) (by decide)
        refine lv_lload hx hb dX10_commonDivisor_16 (lv_at hl 1 rfl) ?_
        refine lv_lconst (v := 0) hx hb dX10_commonDivisor_18 (by decide) ?_
        refine W.lcmp hx hb dX10_commonDivisor_19 ?_
        refine lv_topi (fun v_59872 v_59872_e => ?_)
        have h_v_59872 : (-1) ≤ (v_59872 : Int32).toInt ∧ (v_59872 : Int32).toInt ≤ 1 := by rw [v_59872_e]; exact tr_cmp _ _
        refine lv_if_eq (tgt := 44) hx hb dX10_commonDivisor_20 (by decide) (fun c_59873 => ?_) (fun c_59873 => ?_)
        · skip
          have c_59873_i : (v_59872 : Int32).toInt = (0 : Int32).toInt := congrArg Int32.toInt c_59873
          have h_59874 : 0 ≤ (v_59872 : Int32).toInt ∧ (v_59872 : Int32).toInt ≤ 0 := nr_eq_l h_v_59872 (⟨by decide, by decide⟩ : 0 ≤ (0 : Int32).toInt ∧ (0 : Int32).toInt ≤ 0) c_59873_i (by decide) (by decide)
          refine lv_lload hx hb dX10_commonDivisor_44 (lv_at hl 2 rfl) ?_
          exact W.lret (v := x_59867) hx hb hr (fun t ht hW => ⟨x_59867, rfl, trivial, ht⟩) (fun _ h => nomatch h) dX10_commonDivisor_46
        · skip
          have z_59875 : ¬ x_59866 = 0 := tr_cmp0 (by rw [← v_59872_e]; exact c_59873)
          refine lv_lload hx hb dX10_commonDivisor_23 (lv_at hl 2 rfl) ?_
          refine lv_lload hx hb dX10_commonDivisor_25 (lv_at hl 1 rfl) ?_
          refine lv_lrem hx hb dX10_commonDivisor_27 z_59875 ?_
          refine lv_topl (fun w_59876 _ => ?_)
          refine lv_lstore (lv' := [(9, .long w_59876), (8, .int x_59865), (6, .long x_59866), (4, .long x_59867), (0, .long a0), (2, .long a1)]) hx hb dX10_commonDivisor_28 hl (by decide) rfl (fun ls hl => ?_)
          refine lv_lload hx hb dX10_commonDivisor_30 (lv_at hl 2 rfl) ?_
          refine lv_lstore (lv' := [(4, .long x_59866), (9, .long w_59876), (8, .int x_59865), (6, .long x_59866), (0, .long a0), (2, .long a1)]) hx hb dX10_commonDivisor_32 hl (by decide) rfl (fun ls hl => ?_)
          refine lv_lload hx hb dX10_commonDivisor_34 (lv_at hl 1 rfl) ?_
          refine lv_lstore (lv' := [(6, .long w_59876), (4, .long x_59866), (9, .long w_59876), (8, .int x_59865), (0, .long a0), (2, .long a1)]) hx hb dX10_commonDivisor_36 hl (by decide) rfl (fun ls hl => ?_)
          obtain ⟨v_59877, v_59877_e⟩ : ∃ y : Int32, y = x_59865 + Int32.ofInt 1 := ⟨_, rfl⟩
          have h_v_59877 : 1 ≤ (v_59877 : Int32).toInt ∧ (v_59877 : Int32).toInt ≤ 100 := by rw [v_59877_e]; exact tr_add h_59871 (⟨by decide, by decide⟩ : 1 ≤ (Int32.ofInt 1 : Int32).toInt ∧ (Int32.ofInt 1 : Int32).toInt ≤ 1) (by decide) (by decide) (by decide) (by decide)
          have q_v_59877 : v_59877.toInt = x_59865.toInt + 1 := by rw [v_59877_e]; exact tr_addE h_59871 (⟨by decide, by decide⟩ : 1 ≤ (Int32.ofInt 1 : Int32).toInt ∧ (Int32.ofInt 1 : Int32).toInt ≤ 1) (by decide) (by decide)
          refine lv_iinc (v := v_59877) (lv' := [(8, .int v_59877), (6, .long w_59876), (4, .long x_59866), (9, .long w_59876), (0, .long a0), (2, .long a1)]) hx hb dX10_commonDivisor_38 hl (k := 3) rfl v_59877_e.symm (by decide) rfl (fun ls hl => ?_)
          refine lv_goto (tgt := 9) hx hb dX10_commonDivisor_41 (by decide) ?_
          exact ih_59868 v_59877 w_59876 x_59866 ls (tr_w h_v_59877 (by decide) (by decide)) (by omega) (lv_sub hl [0, 1, 2, 4, 5] rfl)
  exact lp_59868 101 0 a1 a0 ls (⟨by decide, by decide⟩ : 0 ≤ (0 : Int32).toInt ∧ (0 : Int32).toInt ≤ 100) (by decide) (lv_sub hl [0, 1, 2, 3, 4] rfl)
set_option maxHeartbeats 4000000 in
set_option maxRecDepth 100000 in
theorem c_X10_term (l : Launch) (D : va_G) (g : Nat → ClassId) (vs : Nat) (p0 : Int32) (p1 : Int32) (vs_part : Nat) (vsw : Int64) (vsp : Nat → Int64) (h_p0 : 0 ≤ (p0 : Int32).toInt ∧ (p0 : Int32).toInt ≤ 11) : Met l yX10_term (.code yX10_term cX10_term 5 (some .long) :: wsL_law) ({ frames := 1, cells := 0, slots := 0, locals := 30 }) (va_Pc [.ref vs, .int p0, .int p1] (fun U => va_P D vwCl [(wO10 vs vs_part vsw), (wJ g vs_part 1 12 vsp)] U.heap ∧ va_K D vwCl (TY g) U)) (vp_Sl (fun r => True)) 0 0 (fun _ => False) := by
  refine Met.ofW (cc := cX10_term) (maxL := 5) (ret := (some .long)) (by decide) rfl ?_
  intro p e s m args below meth c s₁ B hml hv
  obtain ⟨ha, hP, hK⟩ := hv
  have hx := B.exec
  have hb := B.bytes
  have hr := B.returns
  have hts0 := atoms_spec (ws := (.code yX10_term cX10_term 5 (some .long) :: wsL_law)) B.pre
  have hts : ∀ w ∈ wsL_law, w.before args s = true := fun w h => hts0 w (List.mem_cons_of_mem _ h)
  have hown : s.vm.findClass RX10 = some m.cls := findClass_of_methodNamed B.named
  have hlocks := B.notSynchronized
  have hP : va_P D vwCl [(wO10 vs vs_part vsw), (wJ g vs_part 1 12 vsp)] s.heap := hP
  refine W.eq (g2 := entryFrame m ([.ref vs, .int p0, .int p1] : List Value).toArray 5) (by rw [ha]) ?_
  have hl := lv_entry ([.ref vs, .int p0, .int p1]) (n := 5) (Nat.le_of_ble_eq_true rfl)
  rw [lg_entry_eq]
  generalize (lg_sl ([.ref vs, .int p0, .int p1]) ++ List.replicate (5 - (lg_sl ([.ref vs, .int p0, .int p1])).length) Slot.unset).toArray = ls at hl ⊢
  have hl : lv_has ls 5 [(0, .ref vs), (1, .int p0), (2, .int p1)] := hl
  refine lv_aload_n hx hb dX10_term_0 rfl (lv_at hl 0 rfl) ?_
  refine va_get (D := D) (ci := 10) (v := .ref vs_part) (C := RX10) (T := TX10) (N := 2) hx hb hts inlX10 hown hK hP 0 rfl rfl 0 (by decide) (hts (Cond.fieldLink RX10 9 "ChanceRings$Values" "part" "[J") qw_334) (fun _ h9 => h9) rfl dX10_term_1 ?_
  refine lv_iload_n hx hb dX10_term_4 rfl (lv_at hl 1 rfl) ?_
  refine va_lald hx hb hK hP 1 1 rfl rfl (tr_in h_p0 (by decide) (by decide)) dX10_term_5 ?_
  refine lv_topl (fun w_59878 _ => ?_)
  refine lv_aload_n hx hb dX10_term_6 rfl (lv_at hl 0 rfl) ?_
  refine va_get (D := D) (ci := 10) (v := .long vsw) (C := RX10) (T := TX10) (N := 2) hx hb hts inlX10 hown hK hP 0 rfl rfl 1 (by decide) (hts (Cond.fieldLink RX10 15 "ChanceRings$Values" "whole" "J") qw_335) (fun _ h9 => h9) rfl dX10_term_7 ?_
  have hPc := hP.sub (ws' := []) [] rfl
  refine vp_callSl (va_Run.run (va_runS (As := [.long w_59878, .long vsw]) (rest := []) ⟨hx, hb, hml, hown, hts⟩ (c_X10_commonDivisor l D g w_59878 vsw) (va_cwS 2 hts (tz_gS qw_336 qw_337 qw_338 qw_339) rfl rfl rfl (by decide +kernel) ⟨Nat.le_of_ble_eq_true rfl, Nat.le_of_ble_eq_true rfl⟩) ⟨tz_blS, tz_preS hPc hK⟩ rfl rfl hl.1 rfl (lv_room (Nat.le_of_ble_eq_true rfl)) dX10_term_10 ⟨Nat.le_of_ble_eq_true rfl, Nat.le_of_ble_eq_true rfl⟩)) (fun r_59879 hw => ?_)
  refine lv_lstore_n (lv' := [(3, .long r_59879), (0, .ref vs), (1, .int p0), (2, .int p1)]) hx hb dX10_term_13 rfl hl (by decide) rfl (fun ls hl => ?_)
  refine lv_lload_n hx hb dX10_term_14 rfl (lv_at hl 0 rfl) ?_
  refine lv_lconst (v := 1) hx hb dX10_term_15 (by decide) ?_
  refine W.lcmp hx hb dX10_term_16 ?_
  refine lv_topi (fun v_59880 v_59880_e => ?_)
  have h_v_59880 : (-1) ≤ (v_59880 : Int32).toInt ∧ (v_59880 : Int32).toInt ≤ 1 := by rw [v_59880_e]; exact tr_cmp _ _
  refine lv_if_ge (tgt := 22) hx hb dX10_term_17 (by decide) (fun c_59881 => ?_) (fun c_59881 => ?_)
  · skip
    have z_59882 : ¬ r_59879 = 0 := tr_cmp1 (by rw [← v_59880_e]; exact c_59881)
    have c_59881_i := Int32.le_iff_toInt_le.mp c_59881
    have h_59883 : 0 ≤ (v_59880 : Int32).toInt ∧ (v_59880 : Int32).toInt ≤ 1 := nr_le_r (⟨by decide, by decide⟩ : 0 ≤ (0 : Int32).toInt ∧ (0 : Int32).toInt ≤ 0) h_v_59880 c_59881_i (by decide) (by decide)
    refine lv_iload_n hx hb dX10_term_22 rfl (lv_at hl 3 rfl) ?_
    refine lv_if_ne (tgt := 35) hx hb dX10_term_23 (by decide) (fun c_59885 => ?_) (fun c_59885 => ?_)
    · skip
      refine lv_aload_n hx hb dX10_term_35 rfl (lv_at hl 1 rfl) ?_
      refine va_get (D := D) (ci := 10) (v := .long vsw) (C := RX10) (T := TX10) (N := 2) hx hb hts inlX10 hown hK hP 0 rfl rfl 1 (by decide) (hts (Cond.fieldLink RX10 15 "ChanceRings$Values" "whole" "J") qw_335) (fun _ h9 => h9) rfl dX10_term_36 ?_
      refine lv_lload_n hx hb dX10_term_39 rfl (lv_at hl 0 rfl) ?_
      refine lv_ldiv hx hb dX10_term_40 z_59882 ?_
      refine lv_topl (fun w_59887 _ => ?_)
      exact W.lret (v := w_59887) hx hb hr (fun t ht hW => ⟨w_59887, rfl, trivial, ht⟩) (fun _ h => nomatch h) dX10_term_41
    · skip
      have h_59886 : 0 ≤ (p1 : Int32).toInt ∧ (p1 : Int32).toInt ≤ 0 := by rw [c_59885]; exact ⟨by decide, by decide⟩
      refine lv_aload_n hx hb dX10_term_26 rfl (lv_at hl 1 rfl) ?_
      refine va_get (D := D) (ci := 10) (v := .ref vs_part) (C := RX10) (T := TX10) (N := 2) hx hb hts inlX10 hown hK hP 0 rfl rfl 0 (by decide) (hts (Cond.fieldLink RX10 9 "ChanceRings$Values" "part" "[J") qw_334) (fun _ h9 => h9) rfl dX10_term_27 ?_
      refine lv_iload_n hx hb dX10_term_30 rfl (lv_at hl 2 rfl) ?_
      refine va_lald hx hb hK hP 1 1 rfl rfl (tr_in h_p0 (by decide) (by decide)) dX10_term_31 ?_
      refine lv_topl (fun w_59888 _ => ?_)
      refine lv_goto (tgt := 39) hx hb dX10_term_32 (by decide) ?_
      refine lv_lload_n hx hb dX10_term_39 rfl (lv_at hl 0 rfl) ?_
      refine lv_ldiv hx hb dX10_term_40 z_59882 ?_
      refine lv_topl (fun w_59889 _ => ?_)
      exact W.lret (v := w_59889) hx hb hr (fun t ht hW => ⟨w_59889, rfl, trivial, ht⟩) (fun _ h => nomatch h) dX10_term_41
  · skip
    have c_59881_i := Int32.lt_iff_toInt_lt.mp (Int32.not_le.mp c_59881)
    have h_59884 : (-1) ≤ (v_59880 : Int32).toInt ∧ (v_59880 : Int32).toInt ≤ (-1) := nr_lt_l h_v_59880 (⟨by decide, by decide⟩ : 0 ≤ (0 : Int32).toInt ∧ (0 : Int32).toInt ≤ 0) c_59881_i (by decide) (by decide)
    refine lv_lconst (v := 0) hx hb dX10_term_20 (by decide) ?_
    exact W.lret (v := 0) hx hb hr (fun t ht hW => ⟨0, rfl, trivial, ht⟩) (fun _ h => nomatch h) dX10_term_21
set_option maxHeartbeats 4000000 in
set_option maxRecDepth 100000 in
theorem c_X8_append (l : Launch) (D : va_G) (g : Nat → ClassId) (sz : Nat) (tp : Nat) (p0 : Int32) (tp_bytes : Nat) (tl : Int32) (tf : Nat → Int32) (h_tl : 0 ≤ (tl : Int32).toInt ∧ (tl : Int32).toInt ≤ 440) (h_tf : ∀ j : Nat, 0 ≤ (tf j).toInt ∧ (tf j).toInt ≤ 255) : Met l yX8_append (.code yX8_append cX8_append 3 none :: wsL_law) ({ frames := 0, cells := 0, slots := 0, locals := 0 }) (va_Pc [.ref tp, .int p0] (fun U => U.heap.size = sz ∧ va_P D vwCl [(wO8 tp tp_bytes tl), (wI g tp_bytes 0 440 tf)] U.heap ∧ va_K D vwCl (TY g) U ∧ va_D (fun _ => True) [(wO8 tp tp_bytes tl), (wI g tp_bytes 0 440 tf)])) (va_Qv (fun (_ : Unit) => True) (fun _ t => ∃ ol : Int32, ∃ og : Nat → Int32, (0 ≤ (ol : Int32).toInt ∧ (ol : Int32).toInt ≤ 440) ∧ (∀ j : Nat, 0 ≤ (og j).toInt ∧ (og j).toInt ≤ 255) ∧ va_P D vwCl [(wO8 tp tp_bytes ol), (wI g tp_bytes 0 440 og)] t.heap ∧ va_D (va_A [(wO8 tp tp_bytes tl), (wI g tp_bytes 0 440 tf)] sz) [(wO8 tp tp_bytes ol), (wI g tp_bytes 0 440 og)]) (va_A [(wO8 tp tp_bytes tl), (wI g tp_bytes 0 440 tf)] sz)) 0 0 (va_A [(wO8 tp tp_bytes tl), (wI g tp_bytes 0 440 tf)] sz) := by
  refine Met.ofW (cc := cX8_append) (maxL := 3) (ret := none) (by decide) rfl ?_
  intro p e s m args below meth c s₁ B hml hv
  obtain ⟨ha, hsz, hP, hK, hD0⟩ := hv
  have hx := B.exec
  have hb := B.bytes
  have hr := B.returns
  have hts0 := atoms_spec (ws := (.code yX8_append cX8_append 3 none :: wsL_law)) B.pre
  have hts : ∀ w ∈ wsL_law, w.before args s = true := fun w h => hts0 w (List.mem_cons_of_mem _ h)
  have hown : s.vm.findClass RX8 = some m.cls := findClass_of_methodNamed B.named
  have hlocks := B.notSynchronized
  subst hsz
  have hD := hD0.self (sz := s.heap.size)
  generalize hAe : va_A [(wO8 tp tp_bytes tl), (wI g tp_bytes 0 440 tf)] s.heap.size = A at hD ⊢
  have hA : ∀ q : Nat, s.heap.size ≤ q → A q := fun q h => by rw [← hAe]; exact Or.inr h
  have hS : va_S A s.heap s.heap [] := va_S.rf
  have hP : va_P D vwCl [(wO8 tp tp_bytes tl), (wI g tp_bytes 0 440 tf)] s.heap := hP
  refine W.eq (g2 := entryFrame m ([.ref tp, .int p0] : List Value).toArray 3) (by rw [ha]) ?_
  have hl := lv_entry ([.ref tp, .int p0]) (n := 3) (Nat.le_of_ble_eq_true rfl)
  rw [lg_entry_eq]
  generalize (lg_sl ([.ref tp, .int p0]) ++ List.replicate (3 - (lg_sl ([.ref tp, .int p0])).length) Slot.unset).toArray = ls at hl ⊢
  have hl : lv_has ls 3 [(0, .ref tp), (1, .int p0)] := hl
  refine lv_bipush (v := 24) hx hb dX8_append_0 (by decide) ?_
  refine lv_istore_n (lv' := [(2, .int 24), (0, .ref tp), (1, .int p0)]) hx hb dX8_append_2 rfl hl (by decide) rfl (fun ls hl => ?_)
  refine lv_iload_n hx hb dX8_append_3 rfl (lv_at hl 0 rfl) ?_
  refine lv_if_lt (tgt := 49) hx hb dX8_append_4 (by decide) (fun h9 => absurd h9 (by decide)) (fun _ => ?_)
  refine lv_aload_n hx hb dX8_append_7 rfl (lv_at hl 1 rfl) ?_
  refine va_get (D := D) (ci := 8) (v := .int tl) (C := RX8) (T := TX8) (N := 2) hx hb hts inlX8 hown hK hP 0 rfl rfl 1 (by decide) (hts (Cond.fieldLink RX8 15 "ChanceRings$Tape" "length" "I") qw_340) (fun _ h9 => h9) rfl dX8_append_8 ?_
  refine lv_sipush (v := 440) hx hb dX8_append_11 (by decide) ?_
  refine lv_icmp_ge (tgt := 43) hx hb dX8_append_14 (by decide) (fun c_59890 => ?_) (fun c_59890 => ?_)
  · skip
    have c_59890_i := Int32.le_iff_toInt_le.mp c_59890
    have h_59891 : 440 ≤ (tl : Int32).toInt ∧ (tl : Int32).toInt ≤ 440 := nr_le_r (⟨by decide, by decide⟩ : 440 ≤ (440 : Int32).toInt ∧ (440 : Int32).toInt ≤ 440) h_tl c_59890_i (by decide) (by decide)
    refine lv_iinc (v := 16) (lv' := [(2, .int 16), (0, .ref tp), (1, .int p0)]) hx hb dX8_append_43 hl (k := 0) rfl (by decide) (by decide) rfl (fun ls hl => ?_)
    refine lv_goto (tgt := 3) hx hb dX8_append_46 (by decide) ?_
    refine lv_iload_n hx hb dX8_append_3 rfl (lv_at hl 0 rfl) ?_
    refine lv_if_lt (tgt := 49) hx hb dX8_append_4 (by decide) (fun h9 => absurd h9 (by decide)) (fun _ => ?_)
    refine lv_aload_n hx hb dX8_append_7 rfl (lv_at hl 1 rfl) ?_
    refine va_get (D := D) (ci := 8) (v := .int tl) (C := RX8) (T := TX8) (N := 2) hx hb hts inlX8 hown hK hP 0 rfl rfl 1 (by decide) (hts (Cond.fieldLink RX8 15 "ChanceRings$Tape" "length" "I") qw_340) (fun _ h9 => h9) rfl dX8_append_8 ?_
    refine lv_sipush (v := 440) hx hb dX8_append_11 (by decide) ?_
    refine lv_icmp_ge (tgt := 43) hx hb dX8_append_14 (by decide) (fun c_59893 => ?_) (fun h9 => (nr_x_lt h_59891 (⟨by decide, by decide⟩ : 440 ≤ (440 : Int32).toInt ∧ (440 : Int32).toInt ≤ 440) (Int32.lt_iff_toInt_lt.mp (Int32.not_le.mp h9)) (by decide)).elim)
    refine lv_iinc (v := 8) (lv' := [(2, .int 8), (0, .ref tp), (1, .int p0)]) hx hb dX8_append_43 hl (k := 0) rfl (by decide) (by decide) rfl (fun ls hl => ?_)
    refine lv_goto (tgt := 3) hx hb dX8_append_46 (by decide) ?_
    refine lv_iload_n hx hb dX8_append_3 rfl (lv_at hl 0 rfl) ?_
    refine lv_if_lt (tgt := 49) hx hb dX8_append_4 (by decide) (fun h9 => absurd h9 (by decide)) (fun _ => ?_)
    refine lv_aload_n hx hb dX8_append_7 rfl (lv_at hl 1 rfl) ?_
    refine va_get (D := D) (ci := 8) (v := .int tl) (C := RX8) (T := TX8) (N := 2) hx hb hts inlX8 hown hK hP 0 rfl rfl 1 (by decide) (hts (Cond.fieldLink RX8 15 "ChanceRings$Tape" "length" "I") qw_340) (fun _ h9 => h9) rfl dX8_append_8 ?_
    refine lv_sipush (v := 440) hx hb dX8_append_11 (by decide) ?_
    refine lv_icmp_ge (tgt := 43) hx hb dX8_append_14 (by decide) (fun c_59894 => ?_) (fun h9 => (nr_x_lt h_59891 (⟨by decide, by decide⟩ : 440 ≤ (440 : Int32).toInt ∧ (440 : Int32).toInt ≤ 440) (Int32.lt_iff_toInt_lt.mp (Int32.not_le.mp h9)) (by decide)).elim)
    refine lv_iinc (v := 0) (lv' := [(2, .int 0), (0, .ref tp), (1, .int p0)]) hx hb dX8_append_43 hl (k := 0) rfl (by decide) (by decide) rfl (fun ls hl => ?_)
    refine lv_goto (tgt := 3) hx hb dX8_append_46 (by decide) ?_
    refine lv_iload_n hx hb dX8_append_3 rfl (lv_at hl 0 rfl) ?_
    refine lv_if_lt (tgt := 49) hx hb dX8_append_4 (by decide) (fun h9 => absurd h9 (by decide)) (fun _ => ?_)
    refine lv_aload_n hx hb dX8_append_7 rfl (lv_at hl 1 rfl) ?_
    refine va_get (D := D) (ci := 8) (v := .int tl) (C := RX8) (T := TX8) (N := 2) hx hb hts inlX8 hown hK hP 0 rfl rfl 1 (by decide) (hts (Cond.fieldLink RX8 15 "ChanceRings$Tape" "length" "I") qw_340) (fun _ h9 => h9) rfl dX8_append_8 ?_
    refine lv_sipush (v := 440) hx hb dX8_append_11 (by decide) ?_
    refine lv_icmp_ge (tgt := 43) hx hb dX8_append_14 (by decide) (fun c_59895 => ?_) (fun h9 => (nr_x_lt h_59891 (⟨by decide, by decide⟩ : 440 ≤ (440 : Int32).toInt ∧ (440 : Int32).toInt ≤ 440) (Int32.lt_iff_toInt_lt.mp (Int32.not_le.mp h9)) (by decide)).elim)
    refine lv_iinc (v := (-8)) (lv' := [(2, .int (-8)), (0, .ref tp), (1, .int p0)]) hx hb dX8_append_43 hl (k := 0) rfl (by decide) (by decide) rfl (fun ls hl => ?_)
    refine lv_goto (tgt := 3) hx hb dX8_append_46 (by decide) ?_
    refine lv_iload_n hx hb dX8_append_3 rfl (lv_at hl 0 rfl) ?_
    refine lv_if_lt (tgt := 49) hx hb dX8_append_4 (by decide) (fun _ => ?_) (fun h9 => (h9 (by decide)).elim)
    have hP9 := hP.sub (ws' := [(wO8 tp tp_bytes tl), (wI g tp_bytes 0 440 tf)]) [0, 1] rfl
    have hD9 := hD.sub (ws' := [(wO8 tp tp_bytes tl), (wI g tp_bytes 0 440 tf)]) [0, 1] (by decide) rfl
    exact W.vret hx hb hr (fun t ht hW => ⟨⟨(), rfl, trivial, tl, tf, (tr_w h_59891 (by decide) (by decide)), (tr_wa h_tf (by decide) (by decide)), by rw [ht]; exact hP9, hD9⟩, hS.F ht⟩) hS.2.2 dX8_append_49
  · skip
    have c_59890_i := Int32.lt_iff_toInt_lt.mp (Int32.not_le.mp c_59890)
    have h_59892 : 0 ≤ (tl : Int32).toInt ∧ (tl : Int32).toInt ≤ 439 := nr_lt_l h_tl (⟨by decide, by decide⟩ : 440 ≤ (440 : Int32).toInt ∧ (440 : Int32).toInt ≤ 440) c_59890_i (by decide) (by decide)
    refine lv_aload_n hx hb dX8_append_17 rfl (lv_at hl 1 rfl) ?_
    refine va_get (D := D) (ci := 8) (v := .ref tp_bytes) (C := RX8) (T := TX8) (N := 2) hx hb hts inlX8 hown hK hP 0 rfl rfl 0 (by decide) (hts (Cond.fieldLink RX8 9 "ChanceRings$Tape" "bytes" "[I") qw_341) (fun _ h9 => h9) rfl dX8_append_18 ?_
    refine lv_aload_n hx hb dX8_append_21 rfl (lv_at hl 1 rfl) ?_
    refine va_get (D := D) (ci := 8) (v := .int tl) (C := RX8) (T := TX8) (N := 2) hx hb hts inlX8 hown hK hP 0 rfl rfl 1 (by decide) (hts (Cond.fieldLink RX8 15 "ChanceRings$Tape" "length" "I") qw_340) (fun _ h9 => h9) rfl dX8_append_22 ?_
    refine lv_iload_n hx hb dX8_append_25 rfl (lv_at hl 2 rfl) ?_
    refine lv_iload_n hx hb dX8_append_26 rfl (lv_at hl 0 rfl) ?_
    refine lv_iushr hx hb dX8_append_27 rfl ?_
    refine lv_topi (fun v_59896 v_59896_e => ?_)
    refine lv_sipush (v := 255) hx hb dX8_append_28 (by decide) ?_
    refine lv_iand hx hb dX8_append_31 ?_
    refine lv_topi (fun v_59897 v_59897_e => ?_)
    have h_v_59897 : 0 ≤ (v_59897 : Int32).toInt ∧ (v_59897 : Int32).toInt ≤ 255 := by rw [v_59897_e]; exact tr_and255 _
    refine va_iast hx hb hK hP hD hS 1 0 rfl rfl (tr_in h_59892 (by decide) (by decide)) dX8_append_32 (fun H locs hP hD hS => ?_)
    obtain ⟨f_59898, h_f_59898, hP, hD⟩ : ∃ FX : Nat → Int32, (∀ j : Nat, 0 ≤ (FX j).toInt ∧ (FX j).toInt ≤ 255) ∧ va_P D vwCl [(wO8 tp tp_bytes tl), (wI g tp_bytes 0 440 FX)] H ∧ va_D A [(wO8 tp tp_bytes tl), (wI g tp_bytes 0 440 FX)] := ⟨_, tr_upd h_tf (tr_w h_v_59897 (by decide) (by decide)), hP, hD⟩
    have hP : va_P D vwCl [(wO8 tp tp_bytes tl), (wI g tp_bytes 0 440 f_59898)] H := hP
    have hD : va_D A [(wO8 tp tp_bytes tl), (wI g tp_bytes 0 440 f_59898)] := hD
    refine lv_aload_n hx hb dX8_append_33 rfl (lv_at hl 1 rfl) ?_
    refine lv_dup hx hb dX8_append_34 rfl ?_
    refine va_get (D := D) (ci := 8) (v := .int tl) (C := RX8) (T := TX8) (N := 2) hx hb hts inlX8 hown hK hP 0 rfl rfl 1 (by decide) (hts (Cond.fieldLink RX8 15 "ChanceRings$Tape" "length" "I") qw_340) (fun _ h9 => h9) rfl dX8_append_35 ?_
    refine lv_iconst (v := 1) hx hb dX8_append_38 (by decide) ?_
    refine lv_iadd hx hb dX8_append_39 ?_
    refine lv_topi (fun v_59899 v_59899_e => ?_)
    have h_v_59899 : 1 ≤ (v_59899 : Int32).toInt ∧ (v_59899 : Int32).toInt ≤ 440 := by rw [v_59899_e]; exact tr_add h_59892 (⟨by decide, by decide⟩ : 1 ≤ (1 : Int32).toInt ∧ (1 : Int32).toInt ≤ 1) (by decide) (by decide) (by decide) (by decide)
    have q_v_59899 : v_59899.toInt = tl.toInt + 1 := by rw [v_59899_e]; exact tr_addE h_59892 (⟨by decide, by decide⟩ : 1 ≤ (1 : Int32).toInt ∧ (1 : Int32).toInt ≤ 1) (by decide) (by decide)
    refine va_put (D := D) (ci := 8) (v := .int v_59899) (ty := .int) (C := RX8) (T := TX8) (N := 2) hx hb hts inlX8 tyX8 tyX8_ok nmX8 hown hK hP hD hS 0 rfl rfl 1 (by decide) (hts (Cond.fieldLink RX8 15 "ChanceRings$Tape" "length" "I") qw_340) (fun _ h9 => h9) rfl (by decide +kernel) rfl rfl (Nat.le_of_ble_eq_true rfl) dX8_append_40 (fun H locs hP hD hS => ?_)
    have hP : va_P D vwCl [(wO8 tp tp_bytes v_59899), (wI g tp_bytes 0 440 f_59898)] H := hP
    have hD : va_D A [(wO8 tp tp_bytes v_59899), (wI g tp_bytes 0 440 f_59898)] := hD
    refine lv_iinc (v := 16) (lv' := [(2, .int 16), (0, .ref tp), (1, .int p0)]) hx hb dX8_append_43 hl (k := 0) rfl (by decide) (by decide) rfl (fun ls hl => ?_)
    refine lv_goto (tgt := 3) hx hb dX8_append_46 (by decide) ?_
    refine lv_iload_n hx hb dX8_append_3 rfl (lv_at hl 0 rfl) ?_
    refine lv_if_lt (tgt := 49) hx hb dX8_append_4 (by decide) (fun h9 => absurd h9 (by decide)) (fun _ => ?_)
    refine lv_aload_n hx hb dX8_append_7 rfl (lv_at hl 1 rfl) ?_
    refine va_get (D := D) (ci := 8) (v := .int v_59899) (C := RX8) (T := TX8) (N := 2) hx hb hts inlX8 hown hK hP 0 rfl rfl 1 (by decide) (hts (Cond.fieldLink RX8 15 "ChanceRings$Tape" "length" "I") qw_340) (fun _ h9 => h9) rfl dX8_append_8 ?_
    refine lv_sipush (v := 440) hx hb dX8_append_11 (by decide) ?_
    refine lv_icmp_ge (tgt := 43) hx hb dX8_append_14 (by decide) (fun c_59900 => ?_) (fun c_59900 => ?_)
    · skip
      have c_59900_i := Int32.le_iff_toInt_le.mp c_59900
      have h_59901 : 440 ≤ (v_59899 : Int32).toInt ∧ (v_59899 : Int32).toInt ≤ 440 := nr_le_r (⟨by decide, by decide⟩ : 440 ≤ (440 : Int32).toInt ∧ (440 : Int32).toInt ≤ 440) h_v_59899 c_59900_i (by decide) (by decide)
      refine lv_iinc (v := 8) (lv' := [(2, .int 8), (0, .ref tp), (1, .int p0)]) hx hb dX8_append_43 hl (k := 0) rfl (by decide) (by decide) rfl (fun ls hl => ?_)
      refine lv_goto (tgt := 3) hx hb dX8_append_46 (by decide) ?_
      refine lv_iload_n hx hb dX8_append_3 rfl (lv_at hl 0 rfl) ?_
      refine lv_if_lt (tgt := 49) hx hb dX8_append_4 (by decide) (fun h9 => absurd h9 (by decide)) (fun _ => ?_)
      refine lv_aload_n hx hb dX8_append_7 rfl (lv_at hl 1 rfl) ?_
      refine va_get (D := D) (ci := 8) (v := .int v_59899) (C := RX8) (T := TX8) (N := 2) hx hb hts inlX8 hown hK hP 0 rfl rfl 1 (by decide) (hts (Cond.fieldLink RX8 15 "ChanceRings$Tape" "length" "I") qw_340) (fun _ h9 => h9) rfl dX8_append_8 ?_
      refine lv_sipush (v := 440) hx hb dX8_append_11 (by decide) ?_
      refine lv_icmp_ge (tgt := 43) hx hb dX8_append_14 (by decide) (fun c_59903 => ?_) (fun h9 => (nr_x_lt h_59901 (⟨by decide, by decide⟩ : 440 ≤ (440 : Int32).toInt ∧ (440 : Int32).toInt ≤ 440) (Int32.lt_iff_toInt_lt.mp (Int32.not_le.mp h9)) (by decide)).elim)
      refine lv_iinc (v := 0) (lv' := [(2, .int 0), (0, .ref tp), (1, .int p0)]) hx hb dX8_append_43 hl (k := 0) rfl (by decide) (by decide) rfl (fun ls hl => ?_)
      refine lv_goto (tgt := 3) hx hb dX8_append_46 (by decide) ?_
      refine lv_iload_n hx hb dX8_append_3 rfl (lv_at hl 0 rfl) ?_
      refine lv_if_lt (tgt := 49) hx hb dX8_append_4 (by decide) (fun h9 => absurd h9 (by decide)) (fun _ => ?_)
      refine lv_aload_n hx hb dX8_append_7 rfl (lv_at hl 1 rfl) ?_
      refine va_get (D := D) (ci := 8) (v := .int v_59899) (C := RX8) (T := TX8) (N := 2) hx hb hts inlX8 hown hK hP 0 rfl rfl 1 (by decide) (hts (Cond.fieldLink RX8 15 "ChanceRings$Tape" "length" "I") qw_340) (fun _ h9 => h9) rfl dX8_append_8 ?_
      refine lv_sipush (v := 440) hx hb dX8_append_11 (by decide) ?_
      refine lv_icmp_ge (tgt := 43) hx hb dX8_append_14 (by decide) (fun c_59904 => ?_) (fun h9 => (nr_x_lt h_59901 (⟨by decide, by decide⟩ : 440 ≤ (440 : Int32).toInt ∧ (440 : Int32).toInt ≤ 440) (Int32.lt_iff_toInt_lt.mp (Int32.not_le.mp h9)) (by decide)).elim)
      refine lv_iinc (v := (-8)) (lv' := [(2, .int (-8)), (0, .ref tp), (1, .int p0)]) hx hb dX8_append_43 hl (k := 0) rfl (by decide) (by decide) rfl (fun ls hl => ?_)
      refine lv_goto (tgt := 3) hx hb dX8_append_46 (by decide) ?_
      refine lv_iload_n hx hb dX8_append_3 rfl (lv_at hl 0 rfl) ?_
      refine lv_if_lt (tgt := 49) hx hb dX8_append_4 (by decide) (fun _ => ?_) (fun h9 => (h9 (by decide)).elim)
      have hP9 := hP.sub (ws' := [(wO8 tp tp_bytes v_59899), (wI g tp_bytes 0 440 f_59898)]) [0, 1] rfl
      have hD9 := hD.sub (ws' := [(wO8 tp tp_bytes v_59899), (wI g tp_bytes 0 440 f_59898)]) [0, 1] (by decide) rfl
      exact W.vret hx hb hr (fun t ht hW => ⟨⟨(), rfl, trivial, v_59899, f_59898, (tr_w h_59901 (by decide) (by decide)), (tr_wa h_f_59898 (by decide) (by decide)), by rw [ht]; exact hP9, hD9⟩, hS.F ht⟩) hS.2.2 dX8_append_49
    · skip
      have c_59900_i := Int32.lt_iff_toInt_lt.mp (Int32.not_le.mp c_59900)
      have h_59902 : 1 ≤ (v_59899 : Int32).toInt ∧ (v_59899 : Int32).toInt ≤ 439 := nr_lt_l h_v_59899 (⟨by decide, by decide⟩ : 440 ≤ (440 : Int32).toInt ∧ (440 : Int32).toInt ≤ 440) c_59900_i (by decide) (by decide)
      refine lv_aload_n hx hb dX8_append_17 rfl (lv_at hl 1 rfl) ?_
      refine va_get (D := D) (ci := 8) (v := .ref tp_bytes) (C := RX8) (T := TX8) (N := 2) hx hb hts inlX8 hown hK hP 0 rfl rfl 0 (by decide) (hts (Cond.fieldLink RX8 9 "ChanceRings$Tape" "bytes" "[I") qw_341) (fun _ h9 => h9) rfl dX8_append_18 ?_
      refine lv_aload_n hx hb dX8_append_21 rfl (lv_at hl 1 rfl) ?_
      refine va_get (D := D) (ci := 8) (v := .int v_59899) (C := RX8) (T := TX8) (N := 2) hx hb hts inlX8 hown hK hP 0 rfl rfl 1 (by decide) (hts (Cond.fieldLink RX8 15 "ChanceRings$Tape" "length" "I") qw_340) (fun _ h9 => h9) rfl dX8_append_22 ?_
      refine lv_iload_n hx hb dX8_append_25 rfl (lv_at hl 2 rfl) ?_
      refine lv_iload_n hx hb dX8_append_26 rfl (lv_at hl 0 rfl) ?_
      refine lv_iushr hx hb dX8_append_27 rfl ?_
      refine lv_topi (fun v_59905 v_59905_e => ?_)
      refine lv_sipush (v := 255) hx hb dX8_append_28 (by decide) ?_
      refine lv_iand hx hb dX8_append_31 ?_
      refine lv_topi (fun v_59906 v_59906_e => ?_)
      have h_v_59906 : 0 ≤ (v_59906 : Int32).toInt ∧ (v_59906 : Int32).toInt ≤ 255 := by rw [v_59906_e]; exact tr_and255 _
      refine va_iast hx hb hK hP hD hS 1 0 rfl rfl (tr_in h_59902 (by decide) (by decide)) dX8_append_32 (fun H locs hP hD hS => ?_)
      obtain ⟨f_59907, h_f_59907, hP, hD⟩ : ∃ FX : Nat → Int32, (∀ j : Nat, 0 ≤ (FX j).toInt ∧ (FX j).toInt ≤ 255) ∧ va_P D vwCl [(wO8 tp tp_bytes v_59899), (wI g tp_bytes 0 440 FX)] H ∧ va_D A [(wO8 tp tp_bytes v_59899), (wI g tp_bytes 0 440 FX)] := ⟨_, tr_upd h_f_59898 (tr_w h_v_59906 (by decide) (by decide)), hP, hD⟩
      have hP : va_P D vwCl [(wO8 tp tp_bytes v_59899), (wI g tp_bytes 0 440 f_59907)] H := hP
      have hD : va_D A [(wO8 tp tp_bytes v_59899), (wI g tp_bytes 0 440 f_59907)] := hD
      refine lv_aload_n hx hb dX8_append_33 rfl (lv_at hl 1 rfl) ?_
      refine lv_dup hx hb dX8_append_34 rfl ?_
      refine va_get (D := D) (ci := 8) (v := .int v_59899) (C := RX8) (T := TX8) (N := 2) hx hb hts inlX8 hown hK hP 0 rfl rfl 1 (by decide) (hts (Cond.fieldLink RX8 15 "ChanceRings$Tape" "length" "I") qw_340) (fun _ h9 => h9) rfl dX8_append_35 ?_
      refine lv_iconst (v := 1) hx hb dX8_append_38 (by decide) ?_
      refine lv_iadd hx hb dX8_append_39 ?_
      refine lv_topi (fun v_59908 v_59908_e => ?_)
      have h_v_59908 : 2 ≤ (v_59908 : Int32).toInt ∧ (v_59908 : Int32).toInt ≤ 440 := by rw [v_59908_e]; exact tr_add h_59902 (⟨by decide, by decide⟩ : 1 ≤ (1 : Int32).toInt ∧ (1 : Int32).toInt ≤ 1) (by decide) (by decide) (by decide) (by decide)
      have q_v_59908 : v_59908.toInt = v_59899.toInt + 1 := by rw [v_59908_e]; exact tr_addE h_59902 (⟨by decide, by decide⟩ : 1 ≤ (1 : Int32).toInt ∧ (1 : Int32).toInt ≤ 1) (by decide) (by decide)
      refine va_put (D := D) (ci := 8) (v := .int v_59908) (ty := .int) (C := RX8) (T := TX8) (N := 2) hx hb hts inlX8 tyX8 tyX8_ok nmX8 hown hK hP hD hS 0 rfl rfl 1 (by decide) (hts (Cond.fieldLink RX8 15 "ChanceRings$Tape" "length" "I") qw_340) (fun _ h9 => h9) rfl (by decide +kernel) rfl rfl (Nat.le_of_ble_eq_true rfl) dX8_append_40 (fun H locs hP hD hS => ?_)
      have hP : va_P D vwCl [(wO8 tp tp_bytes v_59908), (wI g tp_bytes 0 440 f_59907)] H := hP
      have hD : va_D A [(wO8 tp tp_bytes v_59908), (wI g tp_bytes 0 440 f_59907)] := hD
      refine lv_iinc (v := 8) (lv' := [(2, .int 8), (0, .ref tp), (1, .int p0)]) hx hb dX8_append_43 hl (k := 0) rfl (by decide) (by decide) rfl (fun ls hl => ?_)
      refine lv_goto (tgt := 3) hx hb dX8_append_46 (by decide) ?_
      refine lv_iload_n hx hb dX8_append_3 rfl (lv_at hl 0 rfl) ?_
      refine lv_if_lt (tgt := 49) hx hb dX8_append_4 (by decide) (fun h9 => absurd h9 (by decide)) (fun _ => ?_)
      refine lv_aload_n hx hb dX8_append_7 rfl (lv_at hl 1 rfl) ?_
      refine va_get (D := D) (ci := 8) (v := .int v_59908) (C := RX8) (T := TX8) (N := 2) hx hb hts inlX8 hown hK hP 0 rfl rfl 1 (by decide) (hts (Cond.fieldLink RX8 15 "ChanceRings$Tape" "length" "I") qw_340) (fun _ h9 => h9) rfl dX8_append_8 ?_
      refine lv_sipush (v := 440) hx hb dX8_append_11 (by decide) ?_
      refine lv_icmp_ge (tgt := 43) hx hb dX8_append_14 (by decide) (fun c_59909 => ?_) (fun c_59909 => ?_)
      · skip
        have c_59909_i := Int32.le_iff_toInt_le.mp c_59909
        have h_59910 : 440 ≤ (v_59908 : Int32).toInt ∧ (v_59908 : Int32).toInt ≤ 440 := nr_le_r (⟨by decide, by decide⟩ : 440 ≤ (440 : Int32).toInt ∧ (440 : Int32).toInt ≤ 440) h_v_59908 c_59909_i (by decide) (by decide)
        refine lv_iinc (v := 0) (lv' := [(2, .int 0), (0, .ref tp), (1, .int p0)]) hx hb dX8_append_43 hl (k := 0) rfl (by decide) (by decide) rfl (fun ls hl => ?_)
        refine lv_goto (tgt := 3) hx hb dX8_append_46 (by decide) ?_
        refine lv_iload_n hx hb dX8_append_3 rfl (lv_at hl 0 rfl) ?_
        refine lv_if_lt (tgt := 49) hx hb dX8_append_4 (by decide) (fun h9 => absurd h9 (by decide)) (fun _ => ?_)
        refine lv_aload_n hx hb dX8_append_7 rfl (lv_at hl 1 rfl) ?_
        refine va_get (D := D) (ci := 8) (v := .int v_59908) (C := RX8) (T := TX8) (N := 2) hx hb hts inlX8 hown hK hP 0 rfl rfl 1 (by decide) (hts (Cond.fieldLink RX8 15 "ChanceRings$Tape" "length" "I") qw_340) (fun _ h9 => h9) rfl dX8_append_8 ?_
        refine lv_sipush (v := 440) hx hb dX8_append_11 (by decide) ?_
        refine lv_icmp_ge (tgt := 43) hx hb dX8_append_14 (by decide) (fun c_59912 => ?_) (fun h9 => (nr_x_lt h_59910 (⟨by decide, by decide⟩ : 440 ≤ (440 : Int32).toInt ∧ (440 : Int32).toInt ≤ 440) (Int32.lt_iff_toInt_lt.mp (Int32.not_le.mp h9)) (by decide)).elim)
        refine lv_iinc (v := (-8)) (lv' := [(2, .int (-8)), (0, .ref tp), (1, .int p0)]) hx hb dX8_append_43 hl (k := 0) rfl (by decide) (by decide) rfl (fun ls hl => ?_)
        refine lv_goto (tgt := 3) hx hb dX8_append_46 (by decide) ?_
        refine lv_iload_n hx hb dX8_append_3 rfl (lv_at hl 0 rfl) ?_
        refine lv_if_lt (tgt := 49) hx hb dX8_append_4 (by decide) (fun _ => ?_) (fun h9 => (h9 (by decide)).elim)
        have hP9 := hP.sub (ws' := [(wO8 tp tp_bytes v_59908), (wI g tp_bytes 0 440 f_59907)]) [0, 1] rfl
        have hD9 := hD.sub (ws' := [(wO8 tp tp_bytes v_59908), (wI g tp_bytes 0 440 f_59907)]) [0, 1] (by decide) rfl
        exact W.vret hx hb hr (fun t ht hW => ⟨⟨(), rfl, trivial, v_59908, f_59907, (tr_w h_59910 (by decide) (by decide)), (tr_wa h_f_59907 (by decide) (by decide)), by rw [ht]; exact hP9, hD9⟩, hS.F ht⟩) hS.2.2 dX8_append_49
      · skip
        have c_59909_i := Int32.lt_iff_toInt_lt.mp (Int32.not_le.mp c_59909)
        have h_59911 : 2 ≤ (v_59908 : Int32).toInt ∧ (v_59908 : Int32).toInt ≤ 439 := nr_lt_l h_v_59908 (⟨by decide, by decide⟩ : 440 ≤ (440 : Int32).toInt ∧ (440 : Int32).toInt ≤ 440) c_59909_i (by decide) (by decide)
        refine lv_aload_n hx hb dX8_append_17 rfl (lv_at hl 1 rfl) ?_
        refine va_get (D := D) (ci := 8) (v := .ref tp_bytes) (C := RX8) (T := TX8) (N := 2) hx hb hts inlX8 hown hK hP 0 rfl rfl 0 (by decide) (hts (Cond.fieldLink RX8 9 "ChanceRings$Tape" "bytes" "[I") qw_341) (fun _ h9 => h9) rfl dX8_append_18 ?_
        refine lv_aload_n hx hb dX8_append_21 rfl (lv_at hl 1 rfl) ?_
        refine va_get (D := D) (ci := 8) (v := .int v_59908) (C := RX8) (T := TX8) (N := 2) hx hb hts inlX8 hown hK hP 0 rfl rfl 1 (by decide) (hts (Cond.fieldLink RX8 15 "ChanceRings$Tape" "length" "I") qw_340) (fun _ h9 => h9) rfl dX8_append_22 ?_
        refine lv_iload_n hx hb dX8_append_25 rfl (lv_at hl 2 rfl) ?_
        refine lv_iload_n hx hb dX8_append_26 rfl (lv_at hl 0 rfl) ?_
        refine lv_iushr hx hb dX8_append_27 rfl ?_
        refine lv_topi (fun v_59913 v_59913_e => ?_)
        refine lv_sipush (v := 255) hx hb dX8_append_28 (by decide) ?_
        refine lv_iand hx hb dX8_append_31 ?_
        refine lv_topi (fun v_59914 v_59914_e => ?_)
        have h_v_59914 : 0 ≤ (v_59914 : Int32).toInt ∧ (v_59914 : Int32).toInt ≤ 255 := by rw [v_59914_e]; exact tr_and255 _
        refine va_iast hx hb hK hP hD hS 1 0 rfl rfl (tr_in h_59911 (by decide) (by decide)) dX8_append_32 (fun H locs hP hD hS => ?_)
        obtain ⟨f_59915, h_f_59915, hP, hD⟩ : ∃ FX : Nat → Int32, (∀ j : Nat, 0 ≤ (FX j).toInt ∧ (FX j).toInt ≤ 255) ∧ va_P D vwCl [(wO8 tp tp_bytes v_59908), (wI g tp_bytes 0 440 FX)] H ∧ va_D A [(wO8 tp tp_bytes v_59908), (wI g tp_bytes 0 440 FX)] := ⟨_, tr_upd h_f_59907 (tr_w h_v_59914 (by decide) (by decide)), hP, hD⟩
        have hP : va_P D vwCl [(wO8 tp tp_bytes v_59908), (wI g tp_bytes 0 440 f_59915)] H := hP
        have hD : va_D A [(wO8 tp tp_bytes v_59908), (wI g tp_bytes 0 440 f_59915)] := hD
        refine lv_aload_n hx hb dX8_append_33 rfl (lv_at hl 1 rfl) ?_
        refine lv_dup hx hb dX8_append_34 rfl ?_
        refine va_get (D := D) (ci := 8) (v := .int v_59908) (C := RX8) (T := TX8) (N := 2) hx hb hts inlX8 hown hK hP 0 rfl rfl 1 (by decide) (hts (Cond.fieldLink RX8 15 "ChanceRings$Tape" "length" "I") qw_340) (fun _ h9 => h9) rfl dX8_append_35 ?_
        refine lv_iconst (v := 1) hx hb dX8_append_38 (by decide) ?_
        refine lv_iadd hx hb dX8_append_39 ?_
        refine lv_topi (fun v_59916 v_59916_e => ?_)
        have h_v_59916 : 3 ≤ (v_59916 : Int32).toInt ∧ (v_59916 : Int32).toInt ≤ 440 := by rw [v_59916_e]; exact tr_add h_59911 (⟨by decide, by decide⟩ : 1 ≤ (1 : Int32).toInt ∧ (1 : Int32).toInt ≤ 1) (by decide) (by decide) (by decide) (by decide)
        have q_v_59916 : v_59916.toInt = v_59908.toInt + 1 := by rw [v_59916_e]; exact tr_addE h_59911 (⟨by decide, by decide⟩ : 1 ≤ (1 : Int32).toInt ∧ (1 : Int32).toInt ≤ 1) (by decide) (by decide)
        refine va_put (D := D) (ci := 8) (v := .int v_59916) (ty := .int) (C := RX8) (T := TX8) (N := 2) hx hb hts inlX8 tyX8 tyX8_ok nmX8 hown hK hP hD hS 0 rfl rfl 1 (by decide) (hts (Cond.fieldLink RX8 15 "ChanceRings$Tape" "length" "I") qw_340) (fun _ h9 => h9) rfl (by decide +kernel) rfl rfl (Nat.le_of_ble_eq_true rfl) dX8_append_40 (fun H locs hP hD hS => ?_)
        have hP : va_P D vwCl [(wO8 tp tp_bytes v_59916), (wI g tp_bytes 0 440 f_59915)] H := hP
        have hD : va_D A [(wO8 tp tp_bytes v_59916), (wI g tp_bytes 0 440 f_59915)] := hD
        refine lv_iinc (v := 0) (lv' := [(2, .int 0), (0, .ref tp), (1, .int p0)]) hx hb dX8_append_43 hl (k := 0) rfl (by decide) (by decide) rfl (fun ls hl => ?_)
        refine lv_goto (tgt := 3) hx hb dX8_append_46 (by decide) ?_
        refine lv_iload_n hx hb dX8_append_3 rfl (lv_at hl 0 rfl) ?_
        refine lv_if_lt (tgt := 49) hx hb dX8_append_4 (by decide) (fun h9 => absurd h9 (by decide)) (fun _ => ?_)
        refine lv_aload_n hx hb dX8_append_7 rfl (lv_at hl 1 rfl) ?_
        refine va_get (D := D) (ci := 8) (v := .int v_59916) (C := RX8) (T := TX8) (N := 2) hx hb hts inlX8 hown hK hP 0 rfl rfl 1 (by decide) (hts (Cond.fieldLink RX8 15 "ChanceRings$Tape" "length" "I") qw_340) (fun _ h9 => h9) rfl dX8_append_8 ?_
        refine lv_sipush (v := 440) hx hb dX8_append_11 (by decide) ?_
        refine lv_icmp_ge (tgt := 43) hx hb dX8_append_14 (by decide) (fun c_59917 => ?_) (fun c_59917 => ?_)
        · skip
          have c_59917_i := Int32.le_iff_toInt_le.mp c_59917
          have h_59918 : 440 ≤ (v_59916 : Int32).toInt ∧ (v_59916 : Int32).toInt ≤ 440 := nr_le_r (⟨by decide, by decide⟩ : 440 ≤ (440 : Int32).toInt ∧ (440 : Int32).toInt ≤ 440) h_v_59916 c_59917_i (by decide) (by decide)
          refine lv_iinc (v := (-8)) (lv' := [(2, .int (-8)), (0, .ref tp), (1, .int p0)]) hx hb dX8_append_43 hl (k := 0) rfl (by decide) (by decide) rfl (fun ls hl => ?_)
          refine lv_goto (tgt := 3) hx hb dX8_append_46 (by decide) ?_
          refine lv_iload_n hx hb dX8_append_3 rfl (lv_at hl 0 rfl) ?_
          refine lv_if_lt (tgt := 49) hx hb dX8_append_4 (by decide) (fun _ => ?_) (fun h9 => (h9 (by decide)).elim)
          have hP9 := hP.sub (ws' := [(wO8 tp tp_bytes v_59916), (wI g tp_bytes 0 440 f_59915)]) [0, 1] rfl
          have hD9 := hD.sub (ws' := [(wO8 tp tp_bytes v_59916), (wI g tp_bytes 0 440 f_59915)]) [0, 1] (by decide) rfl
          exact W.vret hx hb hr (fun t ht hW => ⟨⟨(), rfl, trivial, v_59916, f_59915, (tr_w h_59918 (by decide) (by decide)), (tr_wa h_f_59915 (by decide) (by decide)), by rw [ht]; exact hP9, hD9⟩, hS.F ht⟩) hS.2.2 dX8_append_49
        · skip
          have c_59917_i := Int32.lt_iff_toInt_lt.mp (Int32.not_le.mp c_59917)
          have h_59919 : 3 ≤ (v_59916 : Int32).toInt ∧ (v_59916 : Int32).toInt ≤ 439 := nr_lt_l h_v_59916 (⟨by decide, by decide⟩ : 440 ≤ (440 : Int32).toInt ∧ (440 : Int32).toInt ≤ 440) c_59917_i (by decide) (by decide)
          refine lv_aload_n hx hb dX8_append_17 rfl (lv_at hl 1 rfl) ?_
          refine va_get (D := D) (ci := 8) (v := .ref tp_bytes) (C := RX8) (T := TX8) (N := 2) hx hb hts inlX8 hown hK hP 0 rfl rfl 0 (by decide) (hts (Cond.fieldLink RX8 9 "ChanceRings$Tape" "bytes" "[I") qw_341) (fun _ h9 => h9) rfl dX8_append_18 ?_
          refine lv_aload_n hx hb dX8_append_21 rfl (lv_at hl 1 rfl) ?_
          refine va_get (D := D) (ci := 8) (v := .int v_59916) (C := RX8) (T := TX8) (N := 2) hx hb hts inlX8 hown hK hP 0 rfl rfl 1 (by decide) (hts (Cond.fieldLink RX8 15 "ChanceRings$Tape" "length" "I") qw_340) (fun _ h9 => h9) rfl dX8_append_22 ?_
          refine lv_iload_n hx hb dX8_append_25 rfl (lv_at hl 2 rfl) ?_
          refine lv_iload_n hx hb dX8_append_26 rfl (lv_at hl 0 rfl) ?_
          refine lv_iushr hx hb dX8_append_27 rfl ?_
          refine lv_topi (fun v_59920 v_59920_e => ?_)
          refine lv_sipush (v := 255) hx hb dX8_append_28 (by decide) ?_
          refine lv_iand hx hb dX8_append_31 ?_
          refine lv_topi (fun v_59921 v_59921_e => ?_)
          have h_v_59921 : 0 ≤ (v_59921 : Int32).toInt ∧ (v_59921 : Int32).toInt ≤ 255 := by rw [v_59921_e]; exact tr_and255 _
          refine va_iast hx hb hK hP hD hS 1 0 rfl rfl (tr_in h_59919 (by decide) (by decide)) dX8_append_32 (fun H locs hP hD hS => ?_)
          obtain ⟨f_59922, h_f_59922, hP, hD⟩ : ∃ FX : Nat → Int32, (∀ j : Nat, 0 ≤ (FX j).toInt ∧ (FX j).toInt ≤ 255) ∧ va_P D vwCl [(wO8 tp tp_bytes v_59916), (wI g tp_bytes 0 440 FX)] H ∧ va_D A [(wO8 tp tp_bytes v_59916), (wI g tp_bytes 0 440 FX)] := ⟨_, tr_upd h_f_59915 (tr_w h_v_59921 (by decide) (by decide)), hP, hD⟩
          have hP : va_P D vwCl [(wO8 tp tp_bytes v_59916), (wI g tp_bytes 0 440 f_59922)] H := hP
          have hD : va_D A [(wO8 tp tp_bytes v_59916), (wI g tp_bytes 0 440 f_59922)] := hD
          refine lv_aload_n hx hb dX8_append_33 rfl (lv_at hl 1 rfl) ?_
          refine lv_dup hx hb dX8_append_34 rfl ?_
          refine va_get (D := D) (ci := 8) (v := .int v_59916) (C := RX8) (T := TX8) (N := 2) hx hb hts inlX8 hown hK hP 0 rfl rfl 1 (by decide) (hts (Cond.fieldLink RX8 15 "ChanceRings$Tape" "length" "I") qw_340) (fun _ h9 => h9) rfl dX8_append_35 ?_
          refine lv_iconst (v := 1) hx hb dX8_append_38 (by decide) ?_
          refine lv_iadd hx hb dX8_append_39 ?_
          refine lv_topi (fun v_59923 v_59923_e => ?_)
          have h_v_59923 : 4 ≤ (v_59923 : Int32).toInt ∧ (v_59923 : Int32).toInt ≤ 440 := by rw [v_59923_e]; exact tr_add h_59919 (⟨by decide, by decide⟩ : 1 ≤ (1 : Int32).toInt ∧ (1 : Int32).toInt ≤ 1) (by decide) (by decide) (by decide) (by decide)
          have q_v_59923 : v_59923.toInt = v_59916.toInt + 1 := by rw [v_59923_e]; exact tr_addE h_59919 (⟨by decide, by decide⟩ : 1 ≤ (1 : Int32).toInt ∧ (1 : Int32).toInt ≤ 1) (by decide) (by decide)
          refine va_put (D := D) (ci := 8) (v := .int v_59923) (ty := .int) (C := RX8) (T := TX8) (N := 2) hx hb hts inlX8 tyX8 tyX8_ok nmX8 hown hK hP hD hS 0 rfl rfl 1 (by decide) (hts (Cond.fieldLink RX8 15 "ChanceRings$Tape" "length" "I") qw_340) (fun _ h9 => h9) rfl (by decide +kernel) rfl rfl (Nat.le_of_ble_eq_true rfl) dX8_append_40 (fun H locs hP hD hS => ?_)
          have hP : va_P D vwCl [(wO8 tp tp_bytes v_59923), (wI g tp_bytes 0 440 f_59922)] H := hP
          have hD : va_D A [(wO8 tp tp_bytes v_59923), (wI g tp_bytes 0 440 f_59922)] := hD
          refine lv_iinc (v := (-8)) (lv' := [(2, .int (-8)), (0, .ref tp), (1, .int p0)]) hx hb dX8_append_43 hl (k := 0) rfl (by decide) (by decide) rfl (fun ls hl => ?_)
          refine lv_goto (tgt := 3) hx hb dX8_append_46 (by decide) ?_
          refine lv_iload_n hx hb dX8_append_3 rfl (lv_at hl 0 rfl) ?_
          refine lv_if_lt (tgt := 49) hx hb dX8_append_4 (by decide) (fun _ => ?_) (fun h9 => (h9 (by decide)).elim)
          have hP9 := hP.sub (ws' := [(wO8 tp tp_bytes v_59923), (wI g tp_bytes 0 440 f_59922)]) [0, 1] rfl
          have hD9 := hD.sub (ws' := [(wO8 tp tp_bytes v_59923), (wI g tp_bytes 0 440 f_59922)]) [0, 1] (by decide) rfl
          exact W.vret hx hb hr (fun t ht hW => ⟨⟨(), rfl, trivial, v_59923, f_59922, (tr_w h_v_59923 (by decide) (by decide)), (tr_wa h_f_59922 (by decide) (by decide)), by rw [ht]; exact hP9, hD9⟩, hS.F ht⟩) hS.2.2 dX8_append_49
set_option maxHeartbeats 4000000 in
set_option maxRecDepth 100000 in
theorem c_X8_tellsFractions (l : Launch) (D : va_G) (g : Nat → ClassId) (tp : Nat) (p0 : Int32) (tp_bytes : Nat) (tl : Int32) (tf : Nat → Int32) (h_p0 : 0 ≤ (p0 : Int32).toInt ∧ (p0 : Int32).toInt ≤ 12) (h_tl : 0 ≤ (tl : Int32).toInt ∧ (tl : Int32).toInt ≤ 440) (h_tf : ∀ j : Nat, 0 ≤ (tf j).toInt ∧ (tf j).toInt ≤ 255) : Met l yX8_tellsFractions (.code yX8_tellsFractions cX8_tellsFractions 3 (some .boolean) :: wsL_law) ({ frames := 0, cells := 0, slots := 0, locals := 0 }) (va_Pc [.ref tp, .int p0] (fun U => va_P D vwCl [(wO8 tp tp_bytes tl), (wI g tp_bytes 0 440 tf)] U.heap ∧ va_K D vwCl (TY g) U)) (vp_Si (fun r => 0 ≤ (r : Int32).toInt ∧ (r : Int32).toInt ≤ 1)) 0 0 (fun _ => False) := by
  refine Met.ofW (cc := cX8_tellsFractions) (maxL := 3) (ret := (some .boolean)) (by decide) rfl ?_
  intro p e s m args below meth c s₁ B hml hv
  obtain ⟨ha, hP, hK⟩ := hv
  have hx := B.exec
  have hb := B.bytes
  have hr := B.returns
  have hts0 := atoms_spec (ws := (.code yX8_tellsFractions cX8_tellsFractions 3 (some .boolean) :: wsL_law)) B.pre
  have hts : ∀ w ∈ wsL_law, w.before args s = true := fun w h => hts0 w (List.mem_cons_of_mem _ h)
  have hown : s.vm.findClass RX8 = some m.cls := findClass_of_methodNamed B.named
  have hlocks := B.notSynchronized
  have hP : va_P D vwCl [(wO8 tp tp_bytes tl), (wI g tp_bytes 0 440 tf)] s.heap := hP
  refine W.eq (g2 := entryFrame m ([.ref tp, .int p0] : List Value).toArray 3) (by rw [ha]) ?_
  have hl := lv_entry ([.ref tp, .int p0]) (n := 3) (Nat.le_of_ble_eq_true rfl)
  rw [lg_entry_eq]
  generalize (lg_sl ([.ref tp, .int p0]) ++ List.replicate (3 - (lg_sl ([.ref tp, .int p0])).length) Slot.unset).toArray = ls at hl ⊢
  have hl : lv_has ls 3 [(0, .ref tp), (1, .int p0)] := hl
  refine lv_aload_n hx hb dX8_tellsFractions_0 rfl (lv_at hl 0 rfl) ?_
  refine va_get (D := D) (ci := 8) (v := .int tl) (C := RX8) (T := TX8) (N := 2) hx hb hts inlX8 hown hK hP 0 rfl rfl 1 (by decide) (hts (Cond.fieldLink RX8 15 "ChanceRings$Tape" "length" "I") qw_340) (fun _ h9 => h9) rfl dX8_tellsFractions_1 ?_
  refine lv_iconst (v := 2) hx hb dX8_tellsFractions_4 (by decide) ?_
  refine lv_iload_n hx hb dX8_tellsFractions_5 rfl (lv_at hl 1 rfl) ?_
  refine lv_imul hx hb dX8_tellsFractions_6 ?_
  refine lv_topi (fun v_59924 v_59924_e => ?_)
  have h_v_59924 : 0 ≤ (v_59924 : Int32).toInt ∧ (v_59924 : Int32).toInt ≤ 24 := by rw [v_59924_e]; exact tr_mul (⟨by decide, by decide⟩ : 2 ≤ (2 : Int32).toInt ∧ (2 : Int32).toInt ≤ 2) h_p0 (by decide) (by decide) (by decide) (by decide)
  refine lv_icmp_eq (tgt := 12) hx hb dX8_tellsFractions_7 (by decide) (fun c_59925 => ?_) (fun c_59925 => ?_)
  · skip
    have c_59925_i : (tl : Int32).toInt = (v_59924 : Int32).toInt := congrArg Int32.toInt c_59925
    have h_59926 : 0 ≤ (tl : Int32).toInt ∧ (tl : Int32).toInt ≤ 24 := nr_eq_l h_tl h_v_59924 c_59925_i (by decide) (by decide)
    refine lv_iconst (v := 0) hx hb dX8_tellsFractions_12 (by decide) ?_
    refine lv_istore_n (lv' := [(2, .int 0), (0, .ref tp), (1, .int p0)]) hx hb dX8_tellsFractions_13 rfl hl (by decide) rfl (fun ls hl => ?_)
    have lp_60096 : ∀ (n_60096 : Nat) (x_60095 : Int32) (ls : Array Slot), (0 ≤ (x_60095 : Int32).toInt ∧ (x_60095 : Int32).toInt ≤ 12) → (12 - x_60095.toInt < (n_60096 : Int)) → lv_has ls 3 [(2, .int x_60095), (0, .ref tp), (1, .int p0)] → W p l e (headSpec (.code yX8_tellsFractions cX8_tellsFractions 3 (some .boolean) :: wsL_law) ({ frames := 0, cells := 0, slots := 0, locals := 0 })).room s m args below meth c s.heap [] 0 0 (MQ below (vp_Si (fun r => 0 ≤ (r : Int32).toInt ∧ (r : Int32).toInt ≤ 1)) args s 0 0 (fun _ => False)) (F0 m 14 ls []) := by
      intro n_60096
      induction n_60096 with
      | zero =>
        intro x_60095 ls h_x_60095 hm_60096 hl
        exfalso; omega
      | succ n_60096 ih_60096 =>
        intro x_60095 ls h_x_60095 hm_60096 hl
        refine lv_iload_n hx hb dX8_tellsFractions_14 rfl (lv_at hl 0 rfl) ?_
        refine lv_iload_n hx hb dX8_tellsFractions_15 rfl (lv_at hl 2 rfl) ?_
        refine lv_icmp_ge (tgt := 69) hx hb dX8_tellsFractions_16 (by decide) (fun c_60097 => ?_) (fun c_60097 => ?_)
        · skip
          refine lv_iconst (v := 1) hx hb dX8_tellsFractions_69 (by decide) ?_
          exact W.zret (v := 1) hx hb hr (by decide) (fun t ht hW => ⟨1, rfl, (⟨by decide, by decide⟩ : 0 ≤ (1 : Int32).toInt ∧ (1 : Int32).toInt ≤ 1), ht⟩) (fun _ h => nomatch h) dX8_tellsFractions_70
        · skip
          have c_60097_i := Int32.lt_iff_toInt_lt.mp (Int32.not_le.mp c_60097)
          have h_60098 : 0 ≤ (x_60095 : Int32).toInt ∧ (x_60095 : Int32).toInt ≤ 11 := nr_lt_l h_x_60095 h_p0 c_60097_i (by decide) (by decide)
          have h_60099 : 1 ≤ (p0 : Int32).toInt ∧ (p0 : Int32).toInt ≤ 12 := nr_lt_r h_x_60095 h_p0 c_60097_i (by decide) (by decide)
          refine lv_aload_n hx hb dX8_tellsFractions_19 rfl (lv_at hl 1 rfl) ?_
          refine va_get (D := D) (ci := 8) (v := .ref tp_bytes) (C := RX8) (T := TX8) (N := 2) hx hb hts inlX8 hown hK hP 0 rfl rfl 0 (by decide) (hts (Cond.fieldLink RX8 9 "ChanceRings$Tape" "bytes" "[I") qw_341) (fun _ h9 => h9) rfl dX8_tellsFractions_20 ?_
          refine lv_iconst (v := 2) hx hb dX8_tellsFractions_23 (by decide) ?_
          refine lv_iload_n hx hb dX8_tellsFractions_24 rfl (lv_at hl 0 rfl) ?_
          refine lv_imul hx hb dX8_tellsFractions_25 ?_
          refine lv_topi (fun v_60100 v_60100_e => ?_)
          have h_v_60100 : 0 ≤ (v_60100 : Int32).toInt ∧ (v_60100 : Int32).toInt ≤ 22 := by rw [v_60100_e]; exact tr_mul (⟨by decide, by decide⟩ : 2 ≤ (2 : Int32).toInt ∧ (2 : Int32).toInt ≤ 2) h_60098 (by decide) (by decide) (by decide) (by decide)
          refine va_iald hx hb hK hP 1 0 rfl rfl (tr_in h_v_60100 (by decide) (by decide)) dX8_tellsFractions_26 ?_
          refine lv_topi (fun v_60101 v_60101_e => ?_)
          have h_v_60101 : 0 ≤ (v_60101 : Int32).toInt ∧ (v_60101 : Int32).toInt ≤ 255 := by rw [v_60101_e]; exact h_tf _
          refine lv_bipush (v := 127) hx hb dX8_tellsFractions_27 (by decide) ?_
          refine lv_icmp_gt (tgt := 61) hx hb dX8_tellsFractions_29 (by decide) (fun c_60102 => ?_) (fun c_60102 => ?_)
          · skip
            have c_60102_i := Int32.lt_iff_toInt_lt.mp c_60102
            have h_60103 : 128 ≤ (v_60101 : Int32).toInt ∧ (v_60101 : Int32).toInt ≤ 255 := nr_lt_r (⟨by decide, by decide⟩ : 127 ≤ (127 : Int32).toInt ∧ (127 : Int32).toInt ≤ 127) h_v_60101 c_60102_i (by decide) (by decide)
            refine lv_iconst (v := 0) hx hb dX8_tellsFractions_61 (by decide) ?_
            exact W.zret (v := 0) hx hb hr (by decide) (fun t ht hW => ⟨0, rfl, (⟨by decide, by decide⟩ : 0 ≤ (0 : Int32).toInt ∧ (0 : Int32).toInt ≤ 1), ht⟩) (fun _ h => nomatch h) dX8_tellsFractions_62
          · skip
            have c_60102_i := Int32.le_iff_toInt_le.mp (Int32.not_lt.mp c_60102)
            have h_60104 : 0 ≤ (v_60101 : Int32).toInt ∧ (v_60101 : Int32).toInt ≤ 127 := nr_le_l h_v_60101 (⟨by decide, by decide⟩ : 127 ≤ (127 : Int32).toInt ∧ (127 : Int32).toInt ≤ 127) c_60102_i (by decide) (by decide)
            refine lv_aload_n hx hb dX8_tellsFractions_32 rfl (lv_at hl 1 rfl) ?_
            refine va_get (D := D) (ci := 8) (v := .ref tp_bytes) (C := RX8) (T := TX8) (N := 2) hx hb hts inlX8 hown hK hP 0 rfl rfl 0 (by decide) (hts (Cond.fieldLink RX8 9 "ChanceRings$Tape" "bytes" "[I") qw_341) (fun _ h9 => h9) rfl dX8_tellsFractions_33 ?_
            refine lv_iconst (v := 2) hx hb dX8_tellsFractions_36 (by decide) ?_
            refine lv_iload_n hx hb dX8_tellsFractions_37 rfl (lv_at hl 0 rfl) ?_
            refine lv_imul hx hb dX8_tellsFractions_38 ?_
            refine lv_topi (fun v_60105 v_60105_e => ?_)
            have h_v_60105 : 0 ≤ (v_60105 : Int32).toInt ∧ (v_60105 : Int32).toInt ≤ 22 := by rw [v_60105_e]; exact tr_mul (⟨by decide, by decide⟩ : 2 ≤ (2 : Int32).toInt ∧ (2 : Int32).toInt ≤ 2) h_60098 (by decide) (by decide) (by decide) (by decide)
            refine lv_iconst (v := 1) hx hb dX8_tellsFractions_39 (by decide) ?_
            refine lv_iadd hx hb dX8_tellsFractions_40 ?_
            refine lv_topi (fun v_60106 v_60106_e => ?_)
            have h_v_60106 : 1 ≤ (v_60106 : Int32).toInt ∧ (v_60106 : Int32).toInt ≤ 23 := by rw [v_60106_e]; exact tr_add h_v_60105 (⟨by decide, by decide⟩ : 1 ≤ (1 : Int32).toInt ∧ (1 : Int32).toInt ≤ 1) (by decide) (by decide) (by decide) (by decide)
            have q_v_60106 : v_60106.toInt = v_60105.toInt + 1 := by rw [v_60106_e]; exact tr_addE h_v_60105 (⟨by decide, by decide⟩ : 1 ≤ (1 : Int32).toInt ∧ (1 : Int32).toInt ≤ 1) (by decide) (by decide)
            refine va_iald hx hb hK hP 1 0 rfl rfl (tr_in h_v_60106 (by decide) (by decide)) dX8_tellsFractions_41 ?_
            refine lv_topi (fun v_60107 v_60107_e => ?_)
            have h_v_60107 : 0 ≤ (v_60107 : Int32).toInt ∧ (v_60107 : Int32).toInt ≤ 255 := by rw [v_60107_e]; exact h_tf _
            refine lv_bipush (v := 127) hx hb dX8_tellsFractions_42 (by decide) ?_
            refine lv_icmp_gt (tgt := 61) hx hb dX8_tellsFractions_44 (by decide) (fun c_60108 => ?_) (fun c_60108 => ?_)
            · skip
              have c_60108_i := Int32.lt_iff_toInt_lt.mp c_60108
              have h_60109 : 128 ≤ (v_60107 : Int32).toInt ∧ (v_60107 : Int32).toInt ≤ 255 := nr_lt_r (⟨by decide, by decide⟩ : 127 ≤ (127 : Int32).toInt ∧ (127 : Int32).toInt ≤ 127) h_v_60107 c_60108_i (by decide) (by decide)
              refine lv_iconst (v := 0) hx hb dX8_tellsFractions_61 (by decide) ?_
              exact W.zret (v := 0) hx hb hr (by decide) (fun t ht hW => ⟨0, rfl, (⟨by decide, by decide⟩ : 0 ≤ (0 : Int32).toInt ∧ (0 : Int32).toInt ≤ 1), ht⟩) (fun _ h => nomatch h) dX8_tellsFractions_62
            · skip
              have c_60108_i := Int32.le_iff_toInt_le.mp (Int32.not_lt.mp c_60108)
              have h_60110 : 0 ≤ (v_60107 : Int32).toInt ∧ (v_60107 : Int32).toInt ≤ 127 := nr_le_l h_v_60107 (⟨by decide, by decide⟩ : 127 ≤ (127 : Int32).toInt ∧ (127 : Int32).toInt ≤ 127) c_60108_i (by decide) (by decide)
              refine lv_aload_n hx hb dX8_tellsFractions_47 rfl (lv_at hl 1 rfl) ?_
              refine va_get (D := D) (ci := 8) (v := .ref tp_bytes) (C := RX8) (T := TX8) (N := 2) hx hb hts inlX8 hown hK hP 0 rfl rfl 0 (by decide) (hts (Cond.fieldLink RX8 9 "ChanceRings$Tape" "bytes" "[I") qw_341) (fun _ h9 => h9) rfl dX8_tellsFractions_48 ?_
              refine lv_iconst (v := 2) hx hb dX8_tellsFractions_51 (by decide) ?_
              refine lv_iload_n hx hb dX8_tellsFractions_52 rfl (lv_at hl 0 rfl) ?_
              refine lv_imul hx hb dX8_tellsFractions_53 ?_
              refine lv_topi (fun v_60111 v_60111_e => ?_)
              have h_v_60111 : 0 ≤ (v_60111 : Int32).toInt ∧ (v_60111 : Int32).toInt ≤ 22 := by rw [v_60111_e]; exact tr_mul (⟨by decide, by decide⟩ : 2 ≤ (2 : Int32).toInt ∧ (2 : Int32).toInt ≤ 2) h_60098 (by decide) (by decide) (by decide) (by decide)
              refine lv_iconst (v := 1) hx hb dX8_tellsFractions_54 (by decide) ?_
              refine lv_iadd hx hb dX8_tellsFractions_55 ?_
              refine lv_topi (fun v_60112 v_60112_e => ?_)
              have h_v_60112 : 1 ≤ (v_60112 : Int32).toInt ∧ (v_60112 : Int32).toInt ≤ 23 := by rw [v_60112_e]; exact tr_add h_v_60111 (⟨by decide, by decide⟩ : 1 ≤ (1 : Int32).toInt ∧ (1 : Int32).toInt ≤ 1) (by decide) (by decide) (by decide) (by decide)
              have q_v_60112 : v_60112.toInt = v_60111.toInt + 1 := by rw [v_60112_e]; exact tr_addE h_v_60111 (⟨by decide, by decide⟩ : 1 ≤ (1 : Int32).toInt ∧ (1 : Int32).toInt ≤ 1) (by decide) (by decide)
              refine va_iald hx hb hK hP 1 0 rfl rfl (tr_in h_v_60112 (by decide) (by decide)) dX8_tellsFractions_56 ?_
              refine lv_topi (fun v_60113 v_60113_e => ?_)
              have h_v_60113 : 0 ≤ (v_60113 : Int32).toInt ∧ (v_60113 : Int32).toInt ≤ 255 := by rw [v_60113_e]; exact h_tf _
              refine lv_iconst (v := 1) hx hb dX8_tellsFractions_57 (by decide) ?_
              refine lv_icmp_ge (tgt := 63) hx hb dX8_tellsFractions_58 (by decide) (fun c_60114 => ?_) (fun c_60114 => ?_)
              · skip
                have c_60114_i := Int32.le_iff_toInt_le.mp c_60114
                have h_60115 : 1 ≤ (v_60113 : Int32).toInt ∧ (v_60113 : Int32).toInt ≤ 255 := nr_le_r (⟨by decide, by decide⟩ : 1 ≤ (1 : Int32).toInt ∧ (1 : Int32).toInt ≤ 1) h_v_60113 c_60114_i (by decide) (by decide)
                obtain ⟨v_60117, v_60117_e⟩ : ∃ y : Int32, y = x_60095 + Int32.ofInt 1 := ⟨_, rfl⟩
                have h_v_60117 : 1 ≤ (v_60117 : Int32).toInt ∧ (v_60117 : Int32).toInt ≤ 12 := by rw [v_60117_e]; exact tr_add h_60098 (⟨by decide, by decide⟩ : 1 ≤ (Int32.ofInt 1 : Int32).toInt ∧ (Int32.ofInt 1 : Int32).toInt ≤ 1) (by decide) (by decide) (by decide) (by decide)
                have q_v_60117 : v_60117.toInt = x_60095.toInt + 1 := by rw [v_60117_e]; exact tr_addE h_60098 (⟨by decide, by decide⟩ : 1 ≤ (Int32.ofInt 1 : Int32).toInt ∧ (Int32.ofInt 1 : Int32).toInt ≤ 1) (by decide) (by decide)
                refine lv_iinc (v := v_60117) (lv' := [(2, .int v_60117), (0, .ref tp), (1, .int p0)]) hx hb dX8_tellsFractions_63 hl (k := 0) rfl v_60117_e.symm (by decide) rfl (fun ls hl => ?_)
                refine lv_goto (tgt := 14) hx hb dX8_tellsFractions_66 (by decide) ?_
                exact ih_60096 v_60117 ls (tr_w h_v_60117 (by decide) (by decide)) (by (first | (clear h_tl h_v_59924 c_59925_i h_59926 h_v_60100 h_v_60101 c_60102_i h_60104 h_v_60105 h_v_60106 q_v_60106 h_v_60107 c_60108_i h_60110 h_v_60111 h_v_60112 q_v_60112 h_v_60113 c_60114_i h_60115; omega) | omega)) (lv_sub hl [0, 1, 2] rfl)
              · skip
                have c_60114_i := Int32.lt_iff_toInt_lt.mp (Int32.not_le.mp c_60114)
                have h_60116 : 0 ≤ (v_60113 : Int32).toInt ∧ (v_60113 : Int32).toInt ≤ 0 := nr_lt_l h_v_60113 (⟨by decide, by decide⟩ : 1 ≤ (1 : Int32).toInt ∧ (1 : Int32).toInt ≤ 1) c_60114_i (by decide) (by decide)
                refine lv_iconst (v := 0) hx hb dX8_tellsFractions_61 (by decide) ?_
                exact W.zret (v := 0) hx hb hr (by decide) (fun t ht hW => ⟨0, rfl, (⟨by decide, by decide⟩ : 0 ≤ (0 : Int32).toInt ∧ (0 : Int32).toInt ≤ 1), ht⟩) (fun _ h => nomatch h) dX8_tellsFractions_62
    exact lp_60096 13 0 ls (⟨by decide, by decide⟩ : 0 ≤ (0 : Int32).toInt ∧ (0 : Int32).toInt ≤ 12) (by decide) (lv_sub hl [0, 1, 2] rfl)
  · skip
    refine lv_iconst (v := 0) hx hb dX8_tellsFractions_10 (by decide) ?_
    exact W.zret (v := 0) hx hb hr (by decide) (fun t ht hW => ⟨0, rfl, (⟨by decide, by decide⟩ : 0 ≤ (0 : Int32).toInt ∧ (0 : Int32).toInt ≤ 1), ht⟩) (fun _ h => nomatch h) dX8_tellsFractions_11
set_option maxHeartbeats 4000000 in
set_option maxRecDepth 100000 in
theorem c_X8_numerator (l : Launch) (D : va_G) (g : Nat → ClassId) (tp : Nat) (p0 : Int32) (tp_bytes : Nat) (tl : Int32) (tf : Nat → Int32) (h_p0 : 0 ≤ (p0 : Int32).toInt ∧ (p0 : Int32).toInt ≤ 11) (h_tl : 0 ≤ (tl : Int32).toInt ∧ (tl : Int32).toInt ≤ 440) (h_tf : ∀ j : Nat, 0 ≤ (tf j).toInt ∧ (tf j).toInt ≤ 255) : Met l yX8_numerator (.code yX8_numerator cX8_numerator 2 (some .long) :: wsL_law) ({ frames := 0, cells := 0, slots := 0, locals := 0 }) (va_Pc [.ref tp, .int p0] (fun U => va_P D vwCl [(wO8 tp tp_bytes tl), (wI g tp_bytes 0 440 tf)] U.heap ∧ va_K D vwCl (TY g) U)) (vp_Sl (fun r => True)) 0 0 (fun _ => False) := by
  refine Met.ofW (cc := cX8_numerator) (maxL := 2) (ret := (some .long)) (by decide) rfl ?_
  intro p e s m args below meth c s₁ B hml hv
  obtain ⟨ha, hP, hK⟩ := hv
  have hx := B.exec
  have hb := B.bytes
  have hr := B.returns
  have hts0 := atoms_spec (ws := (.code yX8_numerator cX8_numerator 2 (some .long) :: wsL_law)) B.pre
  have hts : ∀ w ∈ wsL_law, w.before args s = true := fun w h => hts0 w (List.mem_cons_of_mem _ h)
  have hown : s.vm.findClass RX8 = some m.cls := findClass_of_methodNamed B.named
  have hlocks := B.notSynchronized
  have hP : va_P D vwCl [(wO8 tp tp_bytes tl), (wI g tp_bytes 0 440 tf)] s.heap := hP
  refine W.eq (g2 := entryFrame m ([.ref tp, .int p0] : List Value).toArray 2) (by rw [ha]) ?_
  have hl := lv_entry ([.ref tp, .int p0]) (n := 2) (Nat.le_of_ble_eq_true rfl)
  rw [lg_entry_eq]
  generalize (lg_sl ([.ref tp, .int p0]) ++ List.replicate (2 - (lg_sl ([.ref tp, .int p0])).length) Slot.unset).toArray = ls at hl ⊢
  have hl : lv_has ls 2 [(0, .ref tp), (1, .int p0)] := hl
  refine lv_aload_n hx hb dX8_numerator_0 rfl (lv_at hl 0 rfl) ?_
  refine va_get (D := D) (ci := 8) (v := .ref tp_bytes) (C := RX8) (T := TX8) (N := 2) hx hb hts inlX8 hown hK hP 0 rfl rfl 0 (by decide) (hts (Cond.fieldLink RX8 9 "ChanceRings$Tape" "bytes" "[I") qw_341) (fun _ h9 => h9) rfl dX8_numerator_1 ?_
  refine lv_iconst (v := 2) hx hb dX8_numerator_4 (by decide) ?_
  refine lv_iload_n hx hb dX8_numerator_5 rfl (lv_at hl 1 rfl) ?_
  refine lv_imul hx hb dX8_numerator_6 ?_
  refine lv_topi (fun v_60118 v_60118_e => ?_)
  have h_v_60118 : 0 ≤ (v_60118 : Int32).toInt ∧ (v_60118 : Int32).toInt ≤ 22 := by rw [v_60118_e]; exact tr_mul (⟨by decide, by decide⟩ : 2 ≤ (2 : Int32).toInt ∧ (2 : Int32).toInt ≤ 2) h_p0 (by decide) (by decide) (by decide) (by decide)
  refine va_iald hx hb hK hP 1 0 rfl rfl (tr_in h_v_60118 (by decide) (by decide)) dX8_numerator_7 ?_
  refine lv_topi (fun v_60119 v_60119_e => ?_)
  have h_v_60119 : 0 ≤ (v_60119 : Int32).toInt ∧ (v_60119 : Int32).toInt ≤ 255 := by rw [v_60119_e]; exact h_tf _
  refine lv_i2l hx hb dX8_numerator_8 rfl ?_
  refine lv_topl (fun w_60120 _ => ?_)
  exact W.lret (v := w_60120) hx hb hr (fun t ht hW => ⟨w_60120, rfl, trivial, ht⟩) (fun _ h => nomatch h) dX8_numerator_9
set_option maxHeartbeats 4000000 in
set_option maxRecDepth 100000 in
theorem c_X8_denominator (l : Launch) (D : va_G) (g : Nat → ClassId) (tp : Nat) (p0 : Int32) (tp_bytes : Nat) (tl : Int32) (tf : Nat → Int32) (h_p0 : 0 ≤ (p0 : Int32).toInt ∧ (p0 : Int32).toInt ≤ 11) (h_tl : 0 ≤ (tl : Int32).toInt ∧ (tl : Int32).toInt ≤ 440) (h_tf : ∀ j : Nat, 0 ≤ (tf j).toInt ∧ (tf j).toInt ≤ 255) : Met l yX8_denominator (.code yX8_denominator cX8_denominator 2 (some .long) :: wsL_law) ({ frames := 0, cells := 0, slots := 0, locals := 0 }) (va_Pc [.ref tp, .int p0] (fun U => va_P D vwCl [(wO8 tp tp_bytes tl), (wI g tp_bytes 0 440 tf)] U.heap ∧ va_K D vwCl (TY g) U)) (vp_Sl (fun r => True)) 0 0 (fun _ => False) := by
  refine Met.ofW (cc := cX8_denominator) (maxL := 2) (ret := (some .long)) (by decide) rfl ?_
  intro p e s m args below meth c s₁ B hml hv
  obtain ⟨ha, hP, hK⟩ := hv
  have hx := B.exec
  have hb := B.bytes
  have hr := B.returns
  have hts0 := atoms_spec (ws := (.code yX8_denominator cX8_denominator 2 (some .long) :: wsL_law)) B.pre
  have hts : ∀ w ∈ wsL_law, w.before args s = true := fun w h => hts0 w (List.mem_cons_of_mem _ h)
  have hown : s.vm.findClass RX8 = some m.cls := findClass_of_methodNamed B.named
  have hlocks := B.notSynchronized
  have hP : va_P D vwCl [(wO8 tp tp_bytes tl), (wI g tp_bytes 0 440 tf)] s.heap := hP
  refine W.eq (g2 := entryFrame m ([.ref tp, .int p0] : List Value).toArray 2) (by rw [ha]) ?_
  have hl := lv_entry ([.ref tp, .int p0]) (n := 2) (Nat.le_of_ble_eq_true rfl)
  rw [lg_entry_eq]
  generalize (lg_sl ([.ref tp, .int p0]) ++ List.replicate (2 - (lg_sl ([.ref tp, .int p0])).length) Slot.unset).toArray = ls at hl ⊢
  have hl : lv_has ls 2 [(0, .ref tp), (1, .int p0)] := hl
  refine lv_aload_n hx hb dX8_denominator_0 rfl (lv_at hl 0 rfl) ?_
  refine va_get (D := D) (ci := 8) (v := .ref tp_bytes) (C := RX8) (T := TX8) (N := 2) hx hb hts inlX8 hown hK hP 0 rfl rfl 0 (by decide) (hts (Cond.fieldLink RX8 9 "ChanceRings$Tape" "bytes" "[I") qw_341) (fun _ h9 => h9) rfl dX8_denominator_1 ?_
  refine lv_iconst (v := 2) hx hb dX8_denominator_4 (by decide) ?_
  refine lv_iload_n hx hb dX8_denominator_5 rfl (lv_at hl 1 rfl) ?_
  refine lv_imul hx hb dX8_denominator_6 ?_
  refine lv_topi (fun v_60121 v_60121_e => ?_)
  have h_v_60121 : 0 ≤ (v_60121 : Int32).toInt ∧ (v_60121 : Int32).toInt ≤ 22 := by rw [v_60121_e]; exact tr_mul (⟨by decide, by decide⟩ : 2 ≤ (2 : Int32).toInt ∧ (2 : Int32).toInt ≤ 2) h_p0 (by decide) (by decide) (by decide) (by decide)
  refine lv_iconst (v := 1) hx hb dX8_denominator_7 (by decide) ?_
  refine lv_iadd hx hb dX8_denominator_8 ?_
  refine lv_topi (fun v_60122 v_60122_e => ?_)
  have h_v_60122 : 1 ≤ (v_60122 : Int32).toInt ∧ (v_60122 : Int32).toInt ≤ 23 := by rw [v_60122_e]; exact tr_add h_v_60121 (⟨by decide, by decide⟩ : 1 ≤ (1 : Int32).toInt ∧ (1 : Int32).toInt ≤ 1) (by decide) (by decide) (by decide) (by decide)
  have q_v_60122 : v_60122.toInt = v_60121.toInt + 1 := by rw [v_60122_e]; exact tr_addE h_v_60121 (⟨by decide, by decide⟩ : 1 ≤ (1 : Int32).toInt ∧ (1 : Int32).toInt ≤ 1) (by decide) (by decide)
  refine va_iald hx hb hK hP 1 0 rfl rfl (tr_in h_v_60122 (by decide) (by decide)) dX8_denominator_9 ?_
  refine lv_topi (fun v_60123 v_60123_e => ?_)
  have h_v_60123 : 0 ≤ (v_60123 : Int32).toInt ∧ (v_60123 : Int32).toInt ≤ 255 := by rw [v_60123_e]; exact h_tf _
  refine lv_i2l hx hb dX8_denominator_10 rfl ?_
  refine lv_topl (fun w_60124 _ => ?_)
  exact W.lret (v := w_60124) hx hb hr (fun t ht hW => ⟨w_60124, rfl, trivial, ht⟩) (fun _ h => nomatch h) dX8_denominator_11
set_option maxHeartbeats 4000000 in
set_option maxRecDepth 100000 in
theorem c_X2_copyFrom (l : Launch) (D : va_G) (g : Nat → ClassId) (sz : Nat) (n : Nat) (o : Nat) (n_nodes : Int32) (n_kind : Nat) (n_pay : Nat) (n_name : Nat) (n_ways : Nat) (n_held : Nat) (n_targets : Nat) (n_weights : Nat) (o_nodes : Int32) (o_kind : Nat) (o_pay : Nat) (o_name : Nat) (o_ways : Nat) (o_held : Nat) (o_targets : Nat) (o_weights : Nat) (n_fkind : Nat → Int32) (n_fpay : Nat → Int32) (n_fname : Nat → Int32) (n_fways : Nat → Int32) (n_fheld : Nat → Int32) (n_ftargets : Nat → Int32) (n_fweights : Nat → Int32) (o_fkind : Nat → Int32) (o_fpay : Nat → Int32) (o_fname : Nat → Int32) (o_fways : Nat → Int32) (o_fheld : Nat → Int32) (o_ftargets : Nat → Int32) (o_fweights : Nat → Int32) (h_n_nodes : 0 ≤ (n_nodes : Int32).toInt ∧ (n_nodes : Int32).toInt ≤ 12) (h_o_nodes : 0 ≤ (o_nodes : Int32).toInt ∧ (o_nodes : Int32).toInt ≤ 12) (h_n_fkind : ∀ j : Nat, 0 ≤ (n_fkind j).toInt ∧ (n_fkind j).toInt ≤ 3) (h_n_fways : ∀ j : Nat, 0 ≤ (n_fways j).toInt ∧ (n_fways j).toInt ≤ 3) (h_n_fheld : ∀ j : Nat, (-1) ≤ (n_fheld j).toInt ∧ (n_fheld j).toInt ≤ 2) (h_n_ftargets : ∀ j : Nat, 0 ≤ (n_ftargets j).toInt ∧ (n_ftargets j).toInt ≤ 11) (h_o_fkind : ∀ j : Nat, 0 ≤ (o_fkind j).toInt ∧ (o_fkind j).toInt ≤ 3) (h_o_fways : ∀ j : Nat, 0 ≤ (o_fways j).toInt ∧ (o_fways j).toInt ≤ 3) (h_o_fheld : ∀ j : Nat, (-1) ≤ (o_fheld j).toInt ∧ (o_fheld j).toInt ≤ 2) (h_o_ftargets : ∀ j : Nat, 0 ≤ (o_ftargets j).toInt ∧ (o_ftargets j).toInt ≤ 11) : Met l yX2_copyFrom (.code yX2_copyFrom cX2_copyFrom 2 none :: wsL_law) ({ frames := 1, cells := 0, slots := 0, locals := 60 }) (va_Pc [.ref n, .ref o] (fun U => U.heap.size = sz ∧ va_P D vwCl [(wO2 n n_nodes n_kind n_pay n_name n_ways n_held n_targets n_weights), (wO2 o o_nodes o_kind o_pay o_name o_ways o_held o_targets o_weights), (wI g n_kind 0 12 n_fkind), (wI g n_pay 0 12 n_fpay), (wI g n_name 0 12 n_fname), (wI g n_ways 0 12 n_fways), (wI g n_held 0 12 n_fheld), (wI g n_targets 0 36 n_ftargets), (wI g n_weights 0 36 n_fweights), (wI g o_kind 0 12 o_fkind), (wI g o_pay 0 12 o_fpay), (wI g o_name 0 12 o_fname), (wI g o_ways 0 12 o_fways), (wI g o_held 0 12 o_fheld), (wI g o_targets 0 36 o_ftargets), (wI g o_weights 0 36 o_fweights)] U.heap ∧ va_K D vwCl (TY g) U ∧ va_D (fun _ => True) [(wO2 n n_nodes n_kind n_pay n_name n_ways n_held n_targets n_weights), (wO2 o o_nodes o_kind o_pay o_name o_ways o_held o_targets o_weights), (wI g n_kind 0 12 n_fkind), (wI g n_pay 0 12 n_fpay), (wI g n_name 0 12 n_fname), (wI g n_ways 0 12 n_fways), (wI g n_held 0 12 n_fheld), (wI g n_targets 0 36 n_ftargets), (wI g n_weights 0 36 n_fweights), (wI g o_kind 0 12 o_fkind), (wI g o_pay 0 12 o_fpay), (wI g o_name 0 12 o_fname), (wI g o_ways 0 12 o_fways), (wI g o_held 0 12 o_fheld), (wI g o_targets 0 36 o_ftargets), (wI g o_weights 0 36 o_fweights)])) (va_Qv (fun (_ : Unit) => True) (fun _ t => ∃ n_gkind : Nat → Int32, ∃ n_gpay : Nat → Int32, ∃ n_gname : Nat → Int32, ∃ n_gways : Nat → Int32, ∃ n_gheld : Nat → Int32, ∃ n_gtargets : Nat → Int32, ∃ n_gweights : Nat → Int32, (∀ j : Nat, 0 ≤ (n_gkind j).toInt ∧ (n_gkind j).toInt ≤ 3) ∧ (∀ j : Nat, 0 ≤ (n_gways j).toInt ∧ (n_gways j).toInt ≤ 3) ∧ (∀ j : Nat, (-1) ≤ (n_gheld j).toInt ∧ (n_gheld j).toInt ≤ 2) ∧ (∀ j : Nat, 0 ≤ (n_gtargets j).toInt ∧ (n_gtargets j).toInt ≤ 11) ∧ va_P D vwCl [(wO2 n o_nodes n_kind n_pay n_name n_ways n_held n_targets n_weights), (wO2 o o_nodes o_kind o_pay o_name o_ways o_held o_targets o_weights), (wI g n_kind 0 12 n_gkind), (wI g n_pay 0 12 n_gpay), (wI g n_name 0 12 n_gname), (wI g n_ways 0 12 n_gways), (wI g n_held 0 12 n_gheld), (wI g n_targets 0 36 n_gtargets), (wI g n_weights 0 36 n_gweights), (wI g o_kind 0 12 o_fkind), (wI g o_pay 0 12 o_fpay), (wI g o_name 0 12 o_fname), (wI g o_ways 0 12 o_fways), (wI g o_held 0 12 o_fheld), (wI g o_targets 0 36 o_ftargets), (wI g o_weights 0 36 o_fweights)] t.heap ∧ va_D (va_A [(wO2 n n_nodes n_kind n_pay n_name n_ways n_held n_targets n_weights), (wO2 o o_nodes o_kind o_pay o_name o_ways o_held o_targets o_weights), (wI g n_kind 0 12 n_fkind), (wI g n_pay 0 12 n_fpay), (wI g n_name 0 12 n_fname), (wI g n_ways 0 12 n_fways), (wI g n_held 0 12 n_fheld), (wI g n_targets 0 36 n_ftargets), (wI g n_weights 0 36 n_fweights), (wI g o_kind 0 12 o_fkind), (wI g o_pay 0 12 o_fpay), (wI g o_name 0 12 o_fname), (wI g o_ways 0 12 o_fways), (wI g o_held 0 12 o_fheld), (wI g o_targets 0 36 o_ftargets), (wI g o_weights 0 36 o_fweights)] sz) [(wO2 n o_nodes n_kind n_pay n_name n_ways n_held n_targets n_weights), (wO2 o o_nodes o_kind o_pay o_name o_ways o_held o_targets o_weights), (wI g n_kind 0 12 n_gkind), (wI g n_pay 0 12 n_gpay), (wI g n_name 0 12 n_gname), (wI g n_ways 0 12 n_gways), (wI g n_held 0 12 n_gheld), (wI g n_targets 0 36 n_gtargets), (wI g n_weights 0 36 n_gweights), (wI g o_kind 0 12 o_fkind), (wI g o_pay 0 12 o_fpay), (wI g o_name 0 12 o_fname), (wI g o_ways 0 12 o_fways), (wI g o_held 0 12 o_fheld), (wI g o_targets 0 36 o_ftargets), (wI g o_weights 0 36 o_fweights)]) (va_A [(wO2 n n_nodes n_kind n_pay n_name n_ways n_held n_targets n_weights), (wO2 o o_nodes o_kind o_pay o_name o_ways o_held o_targets o_weights), (wI g n_kind 0 12 n_fkind), (wI g n_pay 0 12 n_fpay), (wI g n_name 0 12 n_fname), (wI g n_ways 0 12 n_fways), (wI g n_held 0 12 n_fheld), (wI g n_targets 0 36 n_ftargets), (wI g n_weights 0 36 n_fweights), (wI g o_kind 0 12 o_fkind), (wI g o_pay 0 12 o_fpay), (wI g o_name 0 12 o_fname), (wI g o_ways 0 12 o_fways), (wI g o_held 0 12 o_fheld), (wI g o_targets 0 36 o_ftargets), (wI g o_weights 0 36 o_fweights)] sz)) 0 0 (va_A [(wO2 n n_nodes n_kind n_pay n_name n_ways n_held n_targets n_weights), (wO2 o o_nodes o_kind o_pay o_name o_ways o_held o_targets o_weights), (wI g n_kind 0 12 n_fkind), (wI g n_pay 0 12 n_fpay), (wI g n_name 0 12 n_fname), (wI g n_ways 0 12 n_fways), (wI g n_held 0 12 n_fheld), (wI g n_targets 0 36 n_ftargets), (wI g n_weights 0 36 n_fweights), (wI g o_kind 0 12 o_fkind), (wI g o_pay 0 12 o_fpay), (wI g o_name 0 12 o_fname), (wI g o_ways 0 12 o_fways), (wI g o_held 0 12 o_fheld), (wI g o_targets 0 36 o_ftargets), (wI g o_weights 0 36 o_fweights)] sz) := by
  refine Met.ofW (cc := cX2_copyFrom) (maxL := 2) (ret := none) (by decide) rfl ?_
  intro p e s m args below meth c s₁ B hml hv
  obtain ⟨ha, hsz, hP, hK, hD0⟩ := hv
  have hx := B.exec
  have hb := B.bytes
  have hr := B.returns
  have hts0 := atoms_spec (ws := (.code yX2_copyFrom cX2_copyFrom 2 none :: wsL_law)) B.pre
  have hts : ∀ w ∈ wsL_law, w.before args s = true := fun w h => hts0 w (List.mem_cons_of_mem _ h)
  have hown : s.vm.findClass RX2 = some m.cls := findClass_of_methodNamed B.named
  have hlocks := B.notSynchronized
  subst hsz
  have hD := hD0.self (sz := s.heap.size)
  generalize hAe : va_A [(wO2 n n_nodes n_kind n_pay n_name n_ways n_held n_targets n_weights), (wO2 o o_nodes o_kind o_pay o_name o_ways o_held o_targets o_weights), (wI g n_kind 0 12 n_fkind), (wI g n_pay 0 12 n_fpay), (wI g n_name 0 12 n_fname), (wI g n_ways 0 12 n_fways), (wI g n_held 0 12 n_fheld), (wI g n_targets 0 36 n_ftargets), (wI g n_weights 0 36 n_fweights), (wI g o_kind 0 12 o_fkind), (wI g o_pay 0 12 o_fpay), (wI g o_name 0 12 o_fname), (wI g o_ways 0 12 o_fways), (wI g o_held 0 12 o_fheld), (wI g o_targets 0 36 o_ftargets), (wI g o_weights 0 36 o_fweights)] s.heap.size = A at hD ⊢
  have hA : ∀ q : Nat, s.heap.size ≤ q → A q := fun q h => by rw [← hAe]; exact Or.inr h
  have hS : va_S A s.heap s.heap [] := va_S.rf
  have hP : va_P D vwCl [(wO2 n n_nodes n_kind n_pay n_name n_ways n_held n_targets n_weights), (wO2 o o_nodes o_kind o_pay o_name o_ways o_held o_targets o_weights), (wI g n_kind 0 12 n_fkind), (wI g n_pay 0 12 n_fpay), (wI g n_name 0 12 n_fname), (wI g n_ways 0 12 n_fways), (wI g n_held 0 12 n_fheld), (wI g n_targets 0 36 n_ftargets), (wI g n_weights 0 36 n_fweights), (wI g o_kind 0 12 o_fkind), (wI g o_pay 0 12 o_fpay), (wI g o_name 0 12 o_fname), (wI g o_ways 0 12 o_fways), (wI g o_held 0 12 o_fheld), (wI g o_targets 0 36 o_ftargets), (wI g o_weights 0 36 o_fweights)] s.heap := hP
  refine W.eq (g2 := entryFrame m ([.ref n, .ref o] : List Value).toArray 2) (by rw [ha]) ?_
  have hl := lv_entry ([.ref n, .ref o]) (n := 2) (Nat.le_of_ble_eq_true rfl)
  rw [lg_entry_eq]
  generalize (lg_sl ([.ref n, .ref o]) ++ List.replicate (2 - (lg_sl ([.ref n, .ref o])).length) Slot.unset).toArray = ls at hl ⊢
  have hl : lv_has ls 2 [(0, .ref n), (1, .ref o)] := hl
  refine lv_aload_n hx hb dX2_copyFrom_0 rfl (lv_at hl 0 rfl) ?_
  refine lv_aload_n hx hb dX2_copyFrom_1 rfl (lv_at hl 1 rfl) ?_
  refine va_get (D := D) (ci := 2) (v := .int o_nodes) (C := RX2) (T := TX2) (N := 8) hx hb hts inlX2 hown hK hP 1 rfl rfl 0 (by decide) (hts (Cond.fieldLink RX2 33 "ChanceRings$Net" "nodes" "I") qw_313) (fun _ h9 => h9) rfl dX2_copyFrom_2 ?_
  refine va_put (D := D) (ci := 2) (v := .int o_nodes) (ty := .int) (C := RX2) (T := TX2) (N := 8) hx hb hts inlX2 tyX2 tyX2_ok nmX2 hown hK hP hD hS 0 rfl rfl 0 (by decide) (hts (Cond.fieldLink RX2 33 "ChanceRings$Net" "nodes" "I") qw_313) (fun _ h9 => h9) rfl (by decide +kernel) rfl rfl (Nat.le_of_ble_eq_true rfl) dX2_copyFrom_5 (fun H locs hP hD hS => ?_)
  have hP : va_P D vwCl [(wO2 n o_nodes n_kind n_pay n_name n_ways n_held n_targets n_weights), (wO2 o o_nodes o_kind o_pay o_name o_ways o_held o_targets o_weights), (wI g n_kind 0 12 n_fkind), (wI g n_pay 0 12 n_fpay), (wI g n_name 0 12 n_fname), (wI g n_ways 0 12 n_fways), (wI g n_held 0 12 n_fheld), (wI g n_targets 0 36 n_ftargets), (wI g n_weights 0 36 n_fweights), (wI g o_kind 0 12 o_fkind), (wI g o_pay 0 12 o_fpay), (wI g o_name 0 12 o_fname), (wI g o_ways 0 12 o_fways), (wI g o_held 0 12 o_fheld), (wI g o_targets 0 36 o_ftargets), (wI g o_weights 0 36 o_fweights)] H := hP
  have hD : va_D A [(wO2 n o_nodes n_kind n_pay n_name n_ways n_held n_targets n_weights), (wO2 o o_nodes o_kind o_pay o_name o_ways o_held o_targets o_weights), (wI g n_kind 0 12 n_fkind), (wI g n_pay 0 12 n_fpay), (wI g n_name 0 12 n_fname), (wI g n_ways 0 12 n_fways), (wI g n_held 0 12 n_fheld), (wI g n_targets 0 36 n_ftargets), (wI g n_weights 0 36 n_fweights), (wI g o_kind 0 12 o_fkind), (wI g o_pay 0 12 o_fpay), (wI g o_name 0 12 o_fname), (wI g o_ways 0 12 o_fways), (wI g o_held 0 12 o_fheld), (wI g o_targets 0 36 o_ftargets), (wI g o_weights 0 36 o_fweights)] := hD
  refine lv_aload_n hx hb dX2_copyFrom_8 rfl (lv_at hl 1 rfl) ?_
  refine va_get (D := D) (ci := 2) (v := .ref o_kind) (C := RX2) (T := TX2) (N := 8) hx hb hts inlX2 hown hK hP 1 rfl rfl 1 (by decide) (hts (Cond.fieldLink RX2 9 "ChanceRings$Net" "kind" "[I") qw_316) (fun _ h9 => h9) rfl dX2_copyFrom_9 ?_
  refine lv_iconst (v := 0) hx hb dX2_copyFrom_12 (by decide) ?_
  refine lv_aload_n hx hb dX2_copyFrom_13 rfl (lv_at hl 0 rfl) ?_
  refine va_get (D := D) (ci := 2) (v := .ref n_kind) (C := RX2) (T := TX2) (N := 8) hx hb hts inlX2 hown hK hP 0 rfl rfl 1 (by decide) (hts (Cond.fieldLink RX2 9 "ChanceRings$Net" "kind" "[I") qw_316) (fun _ h9 => h9) rfl dX2_copyFrom_14 ?_
  refine lv_iconst (v := 0) hx hb dX2_copyFrom_17 (by decide) ?_
  refine lv_bipush (v := 12) hx hb dX2_copyFrom_18 (by decide) ?_
  refine va_copyi (ty := .int) hx hb (by rw [hml]; exact hl.1.symm) hown (hts (Cond.methodLink RX2 37 arraycopyName) qw_342) (hts (Cond.native arraycopyName) qw_343) (hts (Cond.static arraycopyName) qw_344) (hts (Cond.initialized "java/lang/System") qw_345) hK hP hD hS 9 2 0 0 rfl rfl rfl rfl rfl (by decide) (by decide) (by decide) (by decide +kernel) (by decide +kernel) (fun _ _ => rfl) (Nat.le_of_ble_eq_true rfl) (Nat.le_of_ble_eq_true rfl) dX2_copyFrom_20 (fun H locs hP hD hS => ?_)
  obtain ⟨f_60125, h_f_60125, hP, hD⟩ : ∃ FX : Nat → Int32, (∀ j : Nat, 0 ≤ (FX j).toInt ∧ (FX j).toInt ≤ 3) ∧ va_P D vwCl [(wO2 n o_nodes n_kind n_pay n_name n_ways n_held n_targets n_weights), (wO2 o o_nodes o_kind o_pay o_name o_ways o_held o_targets o_weights), (wI g n_kind 0 12 FX), (wI g n_pay 0 12 n_fpay), (wI g n_name 0 12 n_fname), (wI g n_ways 0 12 n_fways), (wI g n_held 0 12 n_fheld), (wI g n_targets 0 36 n_ftargets), (wI g n_weights 0 36 n_fweights), (wI g o_kind 0 12 o_fkind), (wI g o_pay 0 12 o_fpay), (wI g o_name 0 12 o_fname), (wI g o_ways 0 12 o_fways), (wI g o_held 0 12 o_fheld), (wI g o_targets 0 36 o_ftargets), (wI g o_weights 0 36 o_fweights)] H ∧ va_D A [(wO2 n o_nodes n_kind n_pay n_name n_ways n_held n_targets n_weights), (wO2 o o_nodes o_kind o_pay o_name o_ways o_held o_targets o_weights), (wI g n_kind 0 12 FX), (wI g n_pay 0 12 n_fpay), (wI g n_name 0 12 n_fname), (wI g n_ways 0 12 n_fways), (wI g n_held 0 12 n_fheld), (wI g n_targets 0 36 n_ftargets), (wI g n_weights 0 36 n_fweights), (wI g o_kind 0 12 o_fkind), (wI g o_pay 0 12 o_fpay), (wI g o_name 0 12 o_fname), (wI g o_ways 0 12 o_fways), (wI g o_held 0 12 o_fheld), (wI g o_targets 0 36 o_ftargets), (wI g o_weights 0 36 o_fweights)] := ⟨_, tr_cpy (tr_wa h_o_fkind (by decide) (by decide)) h_n_fkind, hP, hD⟩
  have hP : va_P D vwCl [(wO2 n o_nodes n_kind n_pay n_name n_ways n_held n_targets n_weights), (wO2 o o_nodes o_kind o_pay o_name o_ways o_held o_targets o_weights), (wI g n_kind 0 12 f_60125), (wI g n_pay 0 12 n_fpay), (wI g n_name 0 12 n_fname), (wI g n_ways 0 12 n_fways), (wI g n_held 0 12 n_fheld), (wI g n_targets 0 36 n_ftargets), (wI g n_weights 0 36 n_fweights), (wI g o_kind 0 12 o_fkind), (wI g o_pay 0 12 o_fpay), (wI g o_name 0 12 o_fname), (wI g o_ways 0 12 o_fways), (wI g o_held 0 12 o_fheld), (wI g o_targets 0 36 o_ftargets), (wI g o_weights 0 36 o_fweights)] H := hP
  have hD : va_D A [(wO2 n o_nodes n_kind n_pay n_name n_ways n_held n_targets n_weights), (wO2 o o_nodes o_kind o_pay o_name o_ways o_held o_targets o_weights), (wI g n_kind 0 12 f_60125), (wI g n_pay 0 12 n_fpay), (wI g n_name 0 12 n_fname), (wI g n_ways 0 12 n_fways), (wI g n_held 0 12 n_fheld), (wI g n_targets 0 36 n_ftargets), (wI g n_weights 0 36 n_fweights), (wI g o_kind 0 12 o_fkind), (wI g o_pay 0 12 o_fpay), (wI g o_name 0 12 o_fname), (wI g o_ways 0 12 o_fways), (wI g o_held 0 12 o_fheld), (wI g o_targets 0 36 o_ftargets), (wI g o_weights 0 36 o_fweights)] := hD
  refine lv_aload_n hx hb dX2_copyFrom_23 rfl (lv_at hl 1 rfl) ?_
  refine va_get (D := D) (ci := 2) (v := .ref o_pay) (C := RX2) (T := TX2) (N := 8) hx hb hts inlX2 hown hK hP 1 rfl rfl 2 (by decide) (hts (Cond.fieldLink RX2 15 "ChanceRings$Net" "pay" "[I") qw_317) (fun _ h9 => h9) rfl dX2_copyFrom_24 ?_
  refine lv_iconst (v := 0) hx hb dX2_copyFrom_27 (by decide) ?_
  refine lv_aload_n hx hb dX2_copyFrom_28 rfl (lv_at hl 0 rfl) ?_
  refine va_get (D := D) (ci := 2) (v := .ref n_pay) (C := RX2) (T := TX2) (N := 8) hx hb hts inlX2 hown hK hP 0 rfl rfl 2 (by decide) (hts (Cond.fieldLink RX2 15 "ChanceRings$Net" "pay" "[I") qw_317) (fun _ h9 => h9) rfl dX2_copyFrom_29 ?_
  refine lv_iconst (v := 0) hx hb dX2_copyFrom_32 (by decide) ?_
  refine lv_bipush (v := 12) hx hb dX2_copyFrom_33 (by decide) ?_
  refine va_copyi (ty := .int) hx hb (by rw [hml]; exact hl.1.symm) hown (hts (Cond.methodLink RX2 37 arraycopyName) qw_342) (hts (Cond.native arraycopyName) qw_343) (hts (Cond.static arraycopyName) qw_344) (hts (Cond.initialized "java/lang/System") qw_345) hK hP hD hS 10 3 0 0 rfl rfl rfl rfl rfl (by decide) (by decide) (by decide) (by decide +kernel) (by decide +kernel) (fun _ _ => rfl) (Nat.le_of_ble_eq_true rfl) (Nat.le_of_ble_eq_true rfl) dX2_copyFrom_35 (fun H locs hP hD hS => ?_)
  obtain ⟨f_60126, hP, hD⟩ : ∃ FX : Nat → Int32, va_P D vwCl [(wO2 n o_nodes n_kind n_pay n_name n_ways n_held n_targets n_weights), (wO2 o o_nodes o_kind o_pay o_name o_ways o_held o_targets o_weights), (wI g n_kind 0 12 f_60125), (wI g n_pay 0 12 FX), (wI g n_name 0 12 n_fname), (wI g n_ways 0 12 n_fways), (wI g n_held 0 12 n_fheld), (wI g n_targets 0 36 n_ftargets), (wI g n_weights 0 36 n_fweights), (wI g o_kind 0 12 o_fkind), (wI g o_pay 0 12 o_fpay), (wI g o_name 0 12 o_fname), (wI g o_ways 0 12 o_fways), (wI g o_held 0 12 o_fheld), (wI g o_targets 0 36 o_ftargets), (wI g o_weights 0 36 o_fweights)] H ∧ va_D A [(wO2 n o_nodes n_kind n_pay n_name n_ways n_held n_targets n_weights), (wO2 o o_nodes o_kind o_pay o_name o_ways o_held o_targets o_weights), (wI g n_kind 0 12 f_60125), (wI g n_pay 0 12 FX), (wI g n_name 0 12 n_fname), (wI g n_ways 0 12 n_fways), (wI g n_held 0 12 n_fheld), (wI g n_targets 0 36 n_ftargets), (wI g n_weights 0 36 n_fweights), (wI g o_kind 0 12 o_fkind), (wI g o_pay 0 12 o_fpay), (wI g o_name 0 12 o_fname), (wI g o_ways 0 12 o_fways), (wI g o_held 0 12 o_fheld), (wI g o_targets 0 36 o_ftargets), (wI g o_weights 0 36 o_fweights)] := ⟨_, hP, hD⟩
  have hP : va_P D vwCl [(wO2 n o_nodes n_kind n_pay n_name n_ways n_held n_targets n_weights), (wO2 o o_nodes o_kind o_pay o_name o_ways o_held o_targets o_weights), (wI g n_kind 0 12 f_60125), (wI g n_pay 0 12 f_60126), (wI g n_name 0 12 n_fname), (wI g n_ways 0 12 n_fways), (wI g n_held 0 12 n_fheld), (wI g n_targets 0 36 n_ftargets), (wI g n_weights 0 36 n_fweights), (wI g o_kind 0 12 o_fkind), (wI g o_pay 0 12 o_fpay), (wI g o_name 0 12 o_fname), (wI g o_ways 0 12 o_fways), (wI g o_held 0 12 o_fheld), (wI g o_targets 0 36 o_ftargets), (wI g o_weights 0 36 o_fweights)] H := hP
  have hD : va_D A [(wO2 n o_nodes n_kind n_pay n_name n_ways n_held n_targets n_weights), (wO2 o o_nodes o_kind o_pay o_name o_ways o_held o_targets o_weights), (wI g n_kind 0 12 f_60125), (wI g n_pay 0 12 f_60126), (wI g n_name 0 12 n_fname), (wI g n_ways 0 12 n_fways), (wI g n_held 0 12 n_fheld), (wI g n_targets 0 36 n_ftargets), (wI g n_weights 0 36 n_fweights), (wI g o_kind 0 12 o_fkind), (wI g o_pay 0 12 o_fpay), (wI g o_name 0 12 o_fname), (wI g o_ways 0 12 o_fways), (wI g o_held 0 12 o_fheld), (wI g o_targets 0 36 o_ftargets), (wI g o_weights 0 36 o_fweights)] := hD
  refine lv_aload_n hx hb dX2_copyFrom_38 rfl (lv_at hl 1 rfl) ?_
  refine va_get (D := D) (ci := 2) (v := .ref o_name) (C := RX2) (T := TX2) (N := 8) hx hb hts inlX2 hown hK hP 1 rfl rfl 3 (by decide) (hts (Cond.fieldLink RX2 18 "ChanceRings$Net" "name" "[I") qw_333) (fun _ h9 => h9) rfl dX2_copyFrom_39 ?_
  refine lv_iconst (v := 0) hx hb dX2_copyFrom_42 (by decide) ?_
  refine lv_aload_n hx hb dX2_copyFrom_43 rfl (lv_at hl 0 rfl) ?_
  refine va_get (D := D) (ci := 2) (v := .ref n_name) (C := RX2) (T := TX2) (N := 8) hx hb hts inlX2 hown hK hP 0 rfl rfl 3 (by decide) (hts (Cond.fieldLink RX2 18 "ChanceRings$Net" "name" "[I") qw_333) (fun _ h9 => h9) rfl dX2_copyFrom_44 ?_
  refine lv_iconst (v := 0) hx hb dX2_copyFrom_47 (by decide) ?_
  refine lv_bipush (v := 12) hx hb dX2_copyFrom_48 (by decide) ?_
  refine va_copyi (ty := .int) hx hb (by rw [hml]; exact hl.1.symm) hown (hts (Cond.methodLink RX2 37 arraycopyName) qw_342) (hts (Cond.native arraycopyName) qw_343) (hts (Cond.static arraycopyName) qw_344) (hts (Cond.initialized "java/lang/System") qw_345) hK hP hD hS 11 4 0 0 rfl rfl rfl rfl rfl (by decide) (by decide) (by decide) (by decide +kernel) (by decide +kernel) (fun _ _ => rfl) (Nat.le_of_ble_eq_true rfl) (Nat.le_of_ble_eq_true rfl) dX2_copyFrom_50 (fun H locs hP hD hS => ?_)
  obtain ⟨f_60127, hP, hD⟩ : ∃ FX : Nat → Int32, va_P D vwCl [(wO2 n o_nodes n_kind n_pay n_name n_ways n_held n_targets n_weights), (wO2 o o_nodes o_kind o_pay o_name o_ways o_held o_targets o_weights), (wI g n_kind 0 12 f_60125), (wI g n_pay 0 12 f_60126), (wI g n_name 0 12 FX), (wI g n_ways 0 12 n_fways), (wI g n_held 0 12 n_fheld), (wI g n_targets 0 36 n_ftargets), (wI g n_weights 0 36 n_fweights), (wI g o_kind 0 12 o_fkind), (wI g o_pay 0 12 o_fpay), (wI g o_name 0 12 o_fname), (wI g o_ways 0 12 o_fways), (wI g o_held 0 12 o_fheld), (wI g o_targets 0 36 o_ftargets), (wI g o_weights 0 36 o_fweights)] H ∧ va_D A [(wO2 n o_nodes n_kind n_pay n_name n_ways n_held n_targets n_weights), (wO2 o o_nodes o_kind o_pay o_name o_ways o_held o_targets o_weights), (wI g n_kind 0 12 f_60125), (wI g n_pay 0 12 f_60126), (wI g n_name 0 12 FX), (wI g n_ways 0 12 n_fways), (wI g n_held 0 12 n_fheld), (wI g n_targets 0 36 n_ftargets), (wI g n_weights 0 36 n_fweights), (wI g o_kind 0 12 o_fkind), (wI g o_pay 0 12 o_fpay), (wI g o_name 0 12 o_fname), (wI g o_ways 0 12 o_fways), (wI g o_held 0 12 o_fheld), (wI g o_targets 0 36 o_ftargets), (wI g o_weights 0 36 o_fweights)] := ⟨_, hP, hD⟩
  have hP : va_P D vwCl [(wO2 n o_nodes n_kind n_pay n_name n_ways n_held n_targets n_weights), (wO2 o o_nodes o_kind o_pay o_name o_ways o_held o_targets o_weights), (wI g n_kind 0 12 f_60125), (wI g n_pay 0 12 f_60126), (wI g n_name 0 12 f_60127), (wI g n_ways 0 12 n_fways), (wI g n_held 0 12 n_fheld), (wI g n_targets 0 36 n_ftargets), (wI g n_weights 0 36 n_fweights), (wI g o_kind 0 12 o_fkind), (wI g o_pay 0 12 o_fpay), (wI g o_name 0 12 o_fname), (wI g o_ways 0 12 o_fways), (wI g o_held 0 12 o_fheld), (wI g o_targets 0 36 o_ftargets), (wI g o_weights 0 36 o_fweights)] H := hP
  have hD : va_D A [(wO2 n o_nodes n_kind n_pay n_name n_ways n_held n_targets n_weights), (wO2 o o_nodes o_kind o_pay o_name o_ways o_held o_targets o_weights), (wI g n_kind 0 12 f_60125), (wI g n_pay 0 12 f_60126), (wI g n_name 0 12 f_60127), (wI g n_ways 0 12 n_fways), (wI g n_held 0 12 n_fheld), (wI g n_targets 0 36 n_ftargets), (wI g n_weights 0 36 n_fweights), (wI g o_kind 0 12 o_fkind), (wI g o_pay 0 12 o_fpay), (wI g o_name 0 12 o_fname), (wI g o_ways 0 12 o_fways), (wI g o_held 0 12 o_fheld), (wI g o_targets 0 36 o_ftargets), (wI g o_weights 0 36 o_fweights)] := hD
  refine lv_aload_n hx hb dX2_copyFrom_53 rfl (lv_at hl 1 rfl) ?_
  refine va_get (D := D) (ci := 2) (v := .ref o_ways) (C := RX2) (T := TX2) (N := 8) hx hb hts inlX2 hown hK hP 1 rfl rfl 4 (by decide) (hts (Cond.fieldLink RX2 21 "ChanceRings$Net" "ways" "[I") qw_318) (fun _ h9 => h9) rfl dX2_copyFrom_54 ?_
  refine lv_iconst (v := 0) hx hb dX2_copyFrom_57 (by decide) ?_
  refine lv_aload_n hx hb dX2_copyFrom_58 rfl (lv_at hl 0 rfl) ?_
  refine va_get (D := D) (ci := 2) (v := .ref n_ways) (C := RX2) (T := TX2) (N := 8) hx hb hts inlX2 hown hK hP 0 rfl rfl 4 (by decide) (hts (Cond.fieldLink RX2 21 "ChanceRings$Net" "ways" "[I") qw_318) (fun _ h9 => h9) rfl dX2_copyFrom_59 ?_
  refine lv_iconst (v := 0) hx hb dX2_copyFrom_62 (by decide) ?_
  refine lv_bipush (v := 12) hx hb dX2_copyFrom_63 (by decide) ?_
  refine va_copyi (ty := .int) hx hb (by rw [hml]; exact hl.1.symm) hown (hts (Cond.methodLink RX2 37 arraycopyName) qw_342) (hts (Cond.native arraycopyName) qw_343) (hts (Cond.static arraycopyName) qw_344) (hts (Cond.initialized "java/lang/System") qw_345) hK hP hD hS 12 5 0 0 rfl rfl rfl rfl rfl (by decide) (by decide) (by decide) (by decide +kernel) (by decide +kernel) (fun _ _ => rfl) (Nat.le_of_ble_eq_true rfl) (Nat.le_of_ble_eq_true rfl) dX2_copyFrom_65 (fun H locs hP hD hS => ?_)
  obtain ⟨f_60128, h_f_60128, hP, hD⟩ : ∃ FX : Nat → Int32, (∀ j : Nat, 0 ≤ (FX j).toInt ∧ (FX j).toInt ≤ 3) ∧ va_P D vwCl [(wO2 n o_nodes n_kind n_pay n_name n_ways n_held n_targets n_weights), (wO2 o o_nodes o_kind o_pay o_name o_ways o_held o_targets o_weights), (wI g n_kind 0 12 f_60125), (wI g n_pay 0 12 f_60126), (wI g n_name 0 12 f_60127), (wI g n_ways 0 12 FX), (wI g n_held 0 12 n_fheld), (wI g n_targets 0 36 n_ftargets), (wI g n_weights 0 36 n_fweights), (wI g o_kind 0 12 o_fkind), (wI g o_pay 0 12 o_fpay), (wI g o_name 0 12 o_fname), (wI g o_ways 0 12 o_fways), (wI g o_held 0 12 o_fheld), (wI g o_targets 0 36 o_ftargets), (wI g o_weights 0 36 o_fweights)] H ∧ va_D A [(wO2 n o_nodes n_kind n_pay n_name n_ways n_held n_targets n_weights), (wO2 o o_nodes o_kind o_pay o_name o_ways o_held o_targets o_weights), (wI g n_kind 0 12 f_60125), (wI g n_pay 0 12 f_60126), (wI g n_name 0 12 f_60127), (wI g n_ways 0 12 FX), (wI g n_held 0 12 n_fheld), (wI g n_targets 0 36 n_ftargets), (wI g n_weights 0 36 n_fweights), (wI g o_kind 0 12 o_fkind), (wI g o_pay 0 12 o_fpay), (wI g o_name 0 12 o_fname), (wI g o_ways 0 12 o_fways), (wI g o_held 0 12 o_fheld), (wI g o_targets 0 36 o_ftargets), (wI g o_weights 0 36 o_fweights)] := ⟨_, tr_cpy (tr_wa h_o_fways (by decide) (by decide)) h_n_fways, hP, hD⟩
  have hP : va_P D vwCl [(wO2 n o_nodes n_kind n_pay n_name n_ways n_held n_targets n_weights), (wO2 o o_nodes o_kind o_pay o_name o_ways o_held o_targets o_weights), (wI g n_kind 0 12 f_60125), (wI g n_pay 0 12 f_60126), (wI g n_name 0 12 f_60127), (wI g n_ways 0 12 f_60128), (wI g n_held 0 12 n_fheld), (wI g n_targets 0 36 n_ftargets), (wI g n_weights 0 36 n_fweights), (wI g o_kind 0 12 o_fkind), (wI g o_pay 0 12 o_fpay), (wI g o_name 0 12 o_fname), (wI g o_ways 0 12 o_fways), (wI g o_held 0 12 o_fheld), (wI g o_targets 0 36 o_ftargets), (wI g o_weights 0 36 o_fweights)] H := hP
  have hD : va_D A [(wO2 n o_nodes n_kind n_pay n_name n_ways n_held n_targets n_weights), (wO2 o o_nodes o_kind o_pay o_name o_ways o_held o_targets o_weights), (wI g n_kind 0 12 f_60125), (wI g n_pay 0 12 f_60126), (wI g n_name 0 12 f_60127), (wI g n_ways 0 12 f_60128), (wI g n_held 0 12 n_fheld), (wI g n_targets 0 36 n_ftargets), (wI g n_weights 0 36 n_fweights), (wI g o_kind 0 12 o_fkind), (wI g o_pay 0 12 o_fpay), (wI g o_name 0 12 o_fname), (wI g o_ways 0 12 o_fways), (wI g o_held 0 12 o_fheld), (wI g o_targets 0 36 o_ftargets), (wI g o_weights 0 36 o_fweights)] := hD
  refine lv_aload_n hx hb dX2_copyFrom_68 rfl (lv_at hl 1 rfl) ?_
  refine va_get (D := D) (ci := 2) (v := .ref o_held) (C := RX2) (T := TX2) (N := 8) hx hb hts inlX2 hown hK hP 1 rfl rfl 5 (by decide) (hts (Cond.fieldLink RX2 24 "ChanceRings$Net" "held" "[I") qw_314) (fun _ h9 => h9) rfl dX2_copyFrom_69 ?_
  refine lv_iconst (v := 0) hx hb dX2_copyFrom_72 (by decide) ?_
  refine lv_aload_n hx hb dX2_copyFrom_73 rfl (lv_at hl 0 rfl) ?_
  refine va_get (D := D) (ci := 2) (v := .ref n_held) (C := RX2) (T := TX2) (N := 8) hx hb hts inlX2 hown hK hP 0 rfl rfl 5 (by decide) (hts (Cond.fieldLink RX2 24 "ChanceRings$Net" "held" "[I") qw_314) (fun _ h9 => h9) rfl dX2_copyFrom_74 ?_
  refine lv_iconst (v := 0) hx hb dX2_copyFrom_77 (by decide) ?_
  refine lv_bipush (v := 12) hx hb dX2_copyFrom_78 (by decide) ?_
  refine va_copyi (ty := .int) hx hb (by rw [hml]; exact hl.1.symm) hown (hts (Cond.methodLink RX2 37 arraycopyName) qw_342) (hts (Cond.native arraycopyName) qw_343) (hts (Cond.static arraycopyName) qw_344) (hts (Cond.initialized "java/lang/System") qw_345) hK hP hD hS 13 6 0 0 rfl rfl rfl rfl rfl (by decide) (by decide) (by decide) (by decide +kernel) (by decide +kernel) (fun _ _ => rfl) (Nat.le_of_ble_eq_true rfl) (Nat.le_of_ble_eq_true rfl) dX2_copyFrom_80 (fun H locs hP hD hS => ?_)
  obtain ⟨f_60129, h_f_60129, hP, hD⟩ : ∃ FX : Nat → Int32, (∀ j : Nat, (-1) ≤ (FX j).toInt ∧ (FX j).toInt ≤ 2) ∧ va_P D vwCl [(wO2 n o_nodes n_kind n_pay n_name n_ways n_held n_targets n_weights), (wO2 o o_nodes o_kind o_pay o_name o_ways o_held o_targets o_weights), (wI g n_kind 0 12 f_60125), (wI g n_pay 0 12 f_60126), (wI g n_name 0 12 f_60127), (wI g n_ways 0 12 f_60128), (wI g n_held 0 12 FX), (wI g n_targets 0 36 n_ftargets), (wI g n_weights 0 36 n_fweights), (wI g o_kind 0 12 o_fkind), (wI g o_pay 0 12 o_fpay), (wI g o_name 0 12 o_fname), (wI g o_ways 0 12 o_fways), (wI g o_held 0 12 o_fheld), (wI g o_targets 0 36 o_ftargets), (wI g o_weights 0 36 o_fweights)] H ∧ va_D A [(wO2 n o_nodes n_kind n_pay n_name n_ways n_held n_targets n_weights), (wO2 o o_nodes o_kind o_pay o_name o_ways o_held o_targets o_weights), (wI g n_kind 0 12 f_60125), (wI g n_pay 0 12 f_60126), (wI g n_name 0 12 f_60127), (wI g n_ways 0 12 f_60128), (wI g n_held 0 12 FX), (wI g n_targets 0 36 n_ftargets), (wI g n_weights 0 36 n_fweights), (wI g o_kind 0 12 o_fkind), (wI g o_pay 0 12 o_fpay), (wI g o_name 0 12 o_fname), (wI g o_ways 0 12 o_fways), (wI g o_held 0 12 o_fheld), (wI g o_targets 0 36 o_ftargets), (wI g o_weights 0 36 o_fweights)] := ⟨_, tr_cpy (tr_wa h_o_fheld (by decide) (by decide)) h_n_fheld, hP, hD⟩
  have hP : va_P D vwCl [(wO2 n o_nodes n_kind n_pay n_name n_ways n_held n_targets n_weights), (wO2 o o_nodes o_kind o_pay o_name o_ways o_held o_targets o_weights), (wI g n_kind 0 12 f_60125), (wI g n_pay 0 12 f_60126), (wI g n_name 0 12 f_60127), (wI g n_ways 0 12 f_60128), (wI g n_held 0 12 f_60129), (wI g n_targets 0 36 n_ftargets), (wI g n_weights 0 36 n_fweights), (wI g o_kind 0 12 o_fkind), (wI g o_pay 0 12 o_fpay), (wI g o_name 0 12 o_fname), (wI g o_ways 0 12 o_fways), (wI g o_held 0 12 o_fheld), (wI g o_targets 0 36 o_ftargets), (wI g o_weights 0 36 o_fweights)] H := hP
  have hD : va_D A [(wO2 n o_nodes n_kind n_pay n_name n_ways n_held n_targets n_weights), (wO2 o o_nodes o_kind o_pay o_name o_ways o_held o_targets o_weights), (wI g n_kind 0 12 f_60125), (wI g n_pay 0 12 f_60126), (wI g n_name 0 12 f_60127), (wI g n_ways 0 12 f_60128), (wI g n_held 0 12 f_60129), (wI g n_targets 0 36 n_ftargets), (wI g n_weights 0 36 n_fweights), (wI g o_kind 0 12 o_fkind), (wI g o_pay 0 12 o_fpay), (wI g o_name 0 12 o_fname), (wI g o_ways 0 12 o_fways), (wI g o_held 0 12 o_fheld), (wI g o_targets 0 36 o_ftargets), (wI g o_weights 0 36 o_fweights)] := hD
  refine lv_aload_n hx hb dX2_copyFrom_83 rfl (lv_at hl 1 rfl) ?_
  refine va_get (D := D) (ci := 2) (v := .ref o_targets) (C := RX2) (T := TX2) (N := 8) hx hb hts inlX2 hown hK hP 1 rfl rfl 6 (by decide) (hts (Cond.fieldLink RX2 27 "ChanceRings$Net" "targets" "[I") qw_315) (fun _ h9 => h9) rfl dX2_copyFrom_84 ?_
  refine lv_iconst (v := 0) hx hb dX2_copyFrom_87 (by decide) ?_
  refine lv_aload_n hx hb dX2_copyFrom_88 rfl (lv_at hl 0 rfl) ?_
  refine va_get (D := D) (ci := 2) (v := .ref n_targets) (C := RX2) (T := TX2) (N := 8) hx hb hts inlX2 hown hK hP 0 rfl rfl 6 (by decide) (hts (Cond.fieldLink RX2 27 "ChanceRings$Net" "targets" "[I") qw_315) (fun _ h9 => h9) rfl dX2_copyFrom_89 ?_
  refine lv_iconst (v := 0) hx hb dX2_copyFrom_92 (by decide) ?_
  refine lv_bipush (v := 36) hx hb dX2_copyFrom_93 (by decide) ?_
  refine va_copyi (ty := .int) hx hb (by rw [hml]; exact hl.1.symm) hown (hts (Cond.methodLink RX2 37 arraycopyName) qw_342) (hts (Cond.native arraycopyName) qw_343) (hts (Cond.static arraycopyName) qw_344) (hts (Cond.initialized "java/lang/System") qw_345) hK hP hD hS 14 7 0 0 rfl rfl rfl rfl rfl (by decide) (by decide) (by decide) (by decide +kernel) (by decide +kernel) (fun _ _ => rfl) (Nat.le_of_ble_eq_true rfl) (Nat.le_of_ble_eq_true rfl) dX2_copyFrom_95 (fun H locs hP hD hS => ?_)
  obtain ⟨f_60130, h_f_60130, hP, hD⟩ : ∃ FX : Nat → Int32, (∀ j : Nat, 0 ≤ (FX j).toInt ∧ (FX j).toInt ≤ 11) ∧ va_P D vwCl [(wO2 n o_nodes n_kind n_pay n_name n_ways n_held n_targets n_weights), (wO2 o o_nodes o_kind o_pay o_name o_ways o_held o_targets o_weights), (wI g n_kind 0 12 f_60125), (wI g n_pay 0 12 f_60126), (wI g n_name 0 12 f_60127), (wI g n_ways 0 12 f_60128), (wI g n_held 0 12 f_60129), (wI g n_targets 0 36 FX), (wI g n_weights 0 36 n_fweights), (wI g o_kind 0 12 o_fkind), (wI g o_pay 0 12 o_fpay), (wI g o_name 0 12 o_fname), (wI g o_ways 0 12 o_fways), (wI g o_held 0 12 o_fheld), (wI g o_targets 0 36 o_ftargets), (wI g o_weights 0 36 o_fweights)] H ∧ va_D A [(wO2 n o_nodes n_kind n_pay n_name n_ways n_held n_targets n_weights), (wO2 o o_nodes o_kind o_pay o_name o_ways o_held o_targets o_weights), (wI g n_kind 0 12 f_60125), (wI g n_pay 0 12 f_60126), (wI g n_name 0 12 f_60127), (wI g n_ways 0 12 f_60128), (wI g n_held 0 12 f_60129), (wI g n_targets 0 36 FX), (wI g n_weights 0 36 n_fweights), (wI g o_kind 0 12 o_fkind), (wI g o_pay 0 12 o_fpay), (wI g o_name 0 12 o_fname), (wI g o_ways 0 12 o_fways), (wI g o_held 0 12 o_fheld), (wI g o_targets 0 36 o_ftargets), (wI g o_weights 0 36 o_fweights)] := ⟨_, tr_cpy (tr_wa h_o_ftargets (by decide) (by decide)) h_n_ftargets, hP, hD⟩
  have hP : va_P D vwCl [(wO2 n o_nodes n_kind n_pay n_name n_ways n_held n_targets n_weights), (wO2 o o_nodes o_kind o_pay o_name o_ways o_held o_targets o_weights), (wI g n_kind 0 12 f_60125), (wI g n_pay 0 12 f_60126), (wI g n_name 0 12 f_60127), (wI g n_ways 0 12 f_60128), (wI g n_held 0 12 f_60129), (wI g n_targets 0 36 f_60130), (wI g n_weights 0 36 n_fweights), (wI g o_kind 0 12 o_fkind), (wI g o_pay 0 12 o_fpay), (wI g o_name 0 12 o_fname), (wI g o_ways 0 12 o_fways), (wI g o_held 0 12 o_fheld), (wI g o_targets 0 36 o_ftargets), (wI g o_weights 0 36 o_fweights)] H := hP
  have hD : va_D A [(wO2 n o_nodes n_kind n_pay n_name n_ways n_held n_targets n_weights), (wO2 o o_nodes o_kind o_pay o_name o_ways o_held o_targets o_weights), (wI g n_kind 0 12 f_60125), (wI g n_pay 0 12 f_60126), (wI g n_name 0 12 f_60127), (wI g n_ways 0 12 f_60128), (wI g n_held 0 12 f_60129), (wI g n_targets 0 36 f_60130), (wI g n_weights 0 36 n_fweights), (wI g o_kind 0 12 o_fkind), (wI g o_pay 0 12 o_fpay), (wI g o_name 0 12 o_fname), (wI g o_ways 0 12 o_fways), (wI g o_held 0 12 o_fheld), (wI g o_targets 0 36 o_ftargets), (wI g o_weights 0 36 o_fweights)] := hD
  refine lv_aload_n hx hb dX2_copyFrom_98 rfl (lv_at hl 1 rfl) ?_
  refine va_get (D := D) (ci := 2) (v := .ref o_weights) (C := RX2) (T := TX2) (N := 8) hx hb hts inlX2 hown hK hP 1 rfl rfl 7 (by decide) (hts (Cond.fieldLink RX2 30 "ChanceRings$Net" "weights" "[I") qw_332) (fun _ h9 => h9) rfl dX2_copyFrom_99 ?_
  refine lv_iconst (v := 0) hx hb dX2_copyFrom_102 (by decide) ?_
  refine lv_aload_n hx hb dX2_copyFrom_103 rfl (lv_at hl 0 rfl) ?_
  refine va_get (D := D) (ci := 2) (v := .ref n_weights) (C := RX2) (T := TX2) (N := 8) hx hb hts inlX2 hown hK hP 0 rfl rfl 7 (by decide) (hts (Cond.fieldLink RX2 30 "ChanceRings$Net" "weights" "[I") qw_332) (fun _ h9 => h9) rfl dX2_copyFrom_104 ?_
  refine lv_iconst (v := 0) hx hb dX2_copyFrom_107 (by decide) ?_
  refine lv_bipush (v := 36) hx hb dX2_copyFrom_108 (by decide) ?_
  refine va_copyi (ty := .int) hx hb (by rw [hml]; exact hl.1.symm) hown (hts (Cond.methodLink RX2 37 arraycopyName) qw_342) (hts (Cond.native arraycopyName) qw_343) (hts (Cond.static arraycopyName) qw_344) (hts (Cond.initialized "java/lang/System") qw_345) hK hP hD hS 15 8 0 0 rfl rfl rfl rfl rfl (by decide) (by decide) (by decide) (by decide +kernel) (by decide +kernel) (fun _ _ => rfl) (Nat.le_of_ble_eq_true rfl) (Nat.le_of_ble_eq_true rfl) dX2_copyFrom_110 (fun H locs hP hD hS => ?_)
  obtain ⟨f_60131, hP, hD⟩ : ∃ FX : Nat → Int32, va_P D vwCl [(wO2 n o_nodes n_kind n_pay n_name n_ways n_held n_targets n_weights), (wO2 o o_nodes o_kind o_pay o_name o_ways o_held o_targets o_weights), (wI g n_kind 0 12 f_60125), (wI g n_pay 0 12 f_60126), (wI g n_name 0 12 f_60127), (wI g n_ways 0 12 f_60128), (wI g n_held 0 12 f_60129), (wI g n_targets 0 36 f_60130), (wI g n_weights 0 36 FX), (wI g o_kind 0 12 o_fkind), (wI g o_pay 0 12 o_fpay), (wI g o_name 0 12 o_fname), (wI g o_ways 0 12 o_fways), (wI g o_held 0 12 o_fheld), (wI g o_targets 0 36 o_ftargets), (wI g o_weights 0 36 o_fweights)] H ∧ va_D A [(wO2 n o_nodes n_kind n_pay n_name n_ways n_held n_targets n_weights), (wO2 o o_nodes o_kind o_pay o_name o_ways o_held o_targets o_weights), (wI g n_kind 0 12 f_60125), (wI g n_pay 0 12 f_60126), (wI g n_name 0 12 f_60127), (wI g n_ways 0 12 f_60128), (wI g n_held 0 12 f_60129), (wI g n_targets 0 36 f_60130), (wI g n_weights 0 36 FX), (wI g o_kind 0 12 o_fkind), (wI g o_pay 0 12 o_fpay), (wI g o_name 0 12 o_fname), (wI g o_ways 0 12 o_fways), (wI g o_held 0 12 o_fheld), (wI g o_targets 0 36 o_ftargets), (wI g o_weights 0 36 o_fweights)] := ⟨_, hP, hD⟩
  have hP : va_P D vwCl [(wO2 n o_nodes n_kind n_pay n_name n_ways n_held n_targets n_weights), (wO2 o o_nodes o_kind o_pay o_name o_ways o_held o_targets o_weights), (wI g n_kind 0 12 f_60125), (wI g n_pay 0 12 f_60126), (wI g n_name 0 12 f_60127), (wI g n_ways 0 12 f_60128), (wI g n_held 0 12 f_60129), (wI g n_targets 0 36 f_60130), (wI g n_weights 0 36 f_60131), (wI g o_kind 0 12 o_fkind), (wI g o_pay 0 12 o_fpay), (wI g o_name 0 12 o_fname), (wI g o_ways 0 12 o_fways), (wI g o_held 0 12 o_fheld), (wI g o_targets 0 36 o_ftargets), (wI g o_weights 0 36 o_fweights)] H := hP
  have hD : va_D A [(wO2 n o_nodes n_kind n_pay n_name n_ways n_held n_targets n_weights), (wO2 o o_nodes o_kind o_pay o_name o_ways o_held o_targets o_weights), (wI g n_kind 0 12 f_60125), (wI g n_pay 0 12 f_60126), (wI g n_name 0 12 f_60127), (wI g n_ways 0 12 f_60128), (wI g n_held 0 12 f_60129), (wI g n_targets 0 36 f_60130), (wI g n_weights 0 36 f_60131), (wI g o_kind 0 12 o_fkind), (wI g o_pay 0 12 o_fpay), (wI g o_name 0 12 o_fname), (wI g o_ways 0 12 o_fways), (wI g o_held 0 12 o_fheld), (wI g o_targets 0 36 o_ftargets), (wI g o_weights 0 36 o_fweights)] := hD
  have hP9 := hP.sub (ws' := [(wO2 n o_nodes n_kind n_pay n_name n_ways n_held n_targets n_weights), (wO2 o o_nodes o_kind o_pay o_name o_ways o_held o_targets o_weights), (wI g n_kind 0 12 f_60125), (wI g n_pay 0 12 f_60126), (wI g n_name 0 12 f_60127), (wI g n_ways 0 12 f_60128), (wI g n_held 0 12 f_60129), (wI g n_targets 0 36 f_60130), (wI g n_weights 0 36 f_60131), (wI g o_kind 0 12 o_fkind), (wI g o_pay 0 12 o_fpay), (wI g o_name 0 12 o_fname), (wI g o_ways 0 12 o_fways), (wI g o_held 0 12 o_fheld), (wI g o_targets 0 36 o_ftargets), (wI g o_weights 0 36 o_fweights)]) [0, 1, 2, 3, 4, 5, 6, 7, 8, 9, 10, 11, 12, 13, 14, 15] rfl
  have hD9 := hD.sub (ws' := [(wO2 n o_nodes n_kind n_pay n_name n_ways n_held n_targets n_weights), (wO2 o o_nodes o_kind o_pay o_name o_ways o_held o_targets o_weights), (wI g n_kind 0 12 f_60125), (wI g n_pay 0 12 f_60126), (wI g n_name 0 12 f_60127), (wI g n_ways 0 12 f_60128), (wI g n_held 0 12 f_60129), (wI g n_targets 0 36 f_60130), (wI g n_weights 0 36 f_60131), (wI g o_kind 0 12 o_fkind), (wI g o_pay 0 12 o_fpay), (wI g o_name 0 12 o_fname), (wI g o_ways 0 12 o_fways), (wI g o_held 0 12 o_fheld), (wI g o_targets 0 36 o_ftargets), (wI g o_weights 0 36 o_fweights)]) [0, 1, 2, 3, 4, 5, 6, 7, 8, 9, 10, 11, 12, 13, 14, 15] (by decide) rfl
  exact W.vret hx hb hr (fun t ht hW => ⟨⟨(), rfl, trivial, f_60125, f_60126, f_60127, f_60128, f_60129, f_60130, f_60131, (tr_wa h_f_60125 (by decide) (by decide)), (tr_wa h_f_60128 (by decide) (by decide)), (tr_wa h_f_60129 (by decide) (by decide)), (tr_wa h_f_60130 (by decide) (by decide)), by rw [ht]; exact hP9, hD9⟩, hS.F ht⟩) hS.2.2 dX2_copyFrom_113
theorem absC_cpy {nd : Int32} {k y n w h t x k1 y1 n1 w1 h1 t1 x1 k2 y2 n2 w2 h2 t2 x2 : Nat → Int32} (ek : k2 = va_cpy k k1 0 0 12) (ey : y2 = va_cpy y y1 0 0 12) (en : n2 = va_cpy n n1 0 0 12) (ew : w2 = va_cpy w w1 0 0 12) (eh : h2 = va_cpy h h1 0 0 12) (et : t2 = va_cpy t t1 0 0 36) (ex : x2 = va_cpy x x1 0 0 36) : EqC (absC nd k2 y2 n2 w2 h2 t2 x2) (absC nd k y n w h t x) := fun j hj => by
  have c : ∀ {f g h : Nat → Int32} {m i : Nat}, h = va_cpy f g 0 0 m → i < m → h i = f i := fun {f g h m i} e hi => by
    rw [e]; unfold va_cpy
    rw [if_pos (by omega), show 0 + (i - 0) = i by omega]
  unfold absC
  repeat' split
  all_goals first | rfl | rw [c ek (by omega)] | rw [c ey (by omega)] | rw [c ew (by omega)] | rw [c et (by omega)] | rw [c ex (by omega)] | rw [c eh (by omega)] | rw [c en (by omega)]
set_option maxHeartbeats 4000000 in
set_option maxRecDepth 100000 in
theorem c_X2_copyFromN (l : Launch) (D : va_G) (g : Nat → ClassId) (sz : Nat) (n : Nat) (o : Nat) (n_nodes : Int32) (n_kind : Nat) (n_pay : Nat) (n_name : Nat) (n_ways : Nat) (n_held : Nat) (n_targets : Nat) (n_weights : Nat) (o_nodes : Int32) (o_kind : Nat) (o_pay : Nat) (o_name : Nat) (o_ways : Nat) (o_held : Nat) (o_targets : Nat) (o_weights : Nat) (n_fkind : Nat → Int32) (n_fpay : Nat → Int32) (n_fname : Nat → Int32) (n_fways : Nat → Int32) (n_fheld : Nat → Int32) (n_ftargets : Nat → Int32) (n_fweights : Nat → Int32) (o_fkind : Nat → Int32) (o_fpay : Nat → Int32) (o_fname : Nat → Int32) (o_fways : Nat → Int32) (o_fheld : Nat → Int32) (o_ftargets : Nat → Int32) (o_fweights : Nat → Int32) (h_n_nodes : 0 ≤ (n_nodes : Int32).toInt ∧ (n_nodes : Int32).toInt ≤ 12) (h_o_nodes : 0 ≤ (o_nodes : Int32).toInt ∧ (o_nodes : Int32).toInt ≤ 12) (h_n_fkind : ∀ j : Nat, 0 ≤ (n_fkind j).toInt ∧ (n_fkind j).toInt ≤ 3) (h_n_fways : ∀ j : Nat, 0 ≤ (n_fways j).toInt ∧ (n_fways j).toInt ≤ 3) (h_n_fheld : ∀ j : Nat, (-1) ≤ (n_fheld j).toInt ∧ (n_fheld j).toInt ≤ 2) (h_n_ftargets : ∀ j : Nat, 0 ≤ (n_ftargets j).toInt ∧ (n_ftargets j).toInt ≤ 11) (h_o_fkind : ∀ j : Nat, 0 ≤ (o_fkind j).toInt ∧ (o_fkind j).toInt ≤ 3) (h_o_fways : ∀ j : Nat, 0 ≤ (o_fways j).toInt ∧ (o_fways j).toInt ≤ 3) (h_o_fheld : ∀ j : Nat, (-1) ≤ (o_fheld j).toInt ∧ (o_fheld j).toInt ≤ 2) (h_o_ftargets : ∀ j : Nat, 0 ≤ (o_ftargets j).toInt ∧ (o_ftargets j).toInt ≤ 11) : Met l yX2_copyFrom (.code yX2_copyFrom cX2_copyFrom 2 none :: wsL_law) ({ frames := 1, cells := 0, slots := 0, locals := 60 }) (va_Pc [.ref n, .ref o] (fun U => U.heap.size = sz ∧ va_P D vwCl [(wO2 n n_nodes n_kind n_pay n_name n_ways n_held n_targets n_weights), (wO2 o o_nodes o_kind o_pay o_name o_ways o_held o_targets o_weights), (wI g n_kind 0 12 n_fkind), (wI g n_pay 0 12 n_fpay), (wI g n_name 0 12 n_fname), (wI g n_ways 0 12 n_fways), (wI g n_held 0 12 n_fheld), (wI g n_targets 0 36 n_ftargets), (wI g n_weights 0 36 n_fweights), (wI g o_kind 0 12 o_fkind), (wI g o_pay 0 12 o_fpay), (wI g o_name 0 12 o_fname), (wI g o_ways 0 12 o_fways), (wI g o_held 0 12 o_fheld), (wI g o_targets 0 36 o_ftargets), (wI g o_weights 0 36 o_fweights)] U.heap ∧ va_K D vwCl (TY g) U ∧ va_D (fun _ => True) [(wO2 n n_nodes n_kind n_pay n_name n_ways n_held n_targets n_weights), (wO2 o o_nodes o_kind o_pay o_name o_ways o_held o_targets o_weights), (wI g n_kind 0 12 n_fkind), (wI g n_pay 0 12 n_fpay), (wI g n_name 0 12 n_fname), (wI g n_ways 0 12 n_fways), (wI g n_held 0 12 n_fheld), (wI g n_targets 0 36 n_ftargets), (wI g n_weights 0 36 n_fweights), (wI g o_kind 0 12 o_fkind), (wI g o_pay 0 12 o_fpay), (wI g o_name 0 12 o_fname), (wI g o_ways 0 12 o_fways), (wI g o_held 0 12 o_fheld), (wI g o_targets 0 36 o_ftargets), (wI g o_weights 0 36 o_fweights)])) (va_Qv (fun (_ : Unit) => True) (fun _ t => ∃ n_gkind : Nat → Int32, ∃ n_gpay : Nat → Int32, ∃ n_gname : Nat → Int32, ∃ n_gways : Nat → Int32, ∃ n_gheld : Nat → Int32, ∃ n_gtargets : Nat → Int32, ∃ n_gweights : Nat → Int32, (∀ j : Nat, 0 ≤ (n_gkind j).toInt ∧ (n_gkind j).toInt ≤ 3) ∧ (∀ j : Nat, 0 ≤ (n_gways j).toInt ∧ (n_gways j).toInt ≤ 3) ∧ (∀ j : Nat, (-1) ≤ (n_gheld j).toInt ∧ (n_gheld j).toInt ≤ 2) ∧ (∀ j : Nat, 0 ≤ (n_gtargets j).toInt ∧ (n_gtargets j).toInt ≤ 11) ∧ (EqC (absC o_nodes n_gkind n_gpay n_gname n_gways n_gheld n_gtargets n_gweights) (absC o_nodes o_fkind o_fpay o_fname o_fways o_fheld o_ftargets o_fweights)) ∧ va_P D vwCl [(wO2 n o_nodes n_kind n_pay n_name n_ways n_held n_targets n_weights), (wO2 o o_nodes o_kind o_pay o_name o_ways o_held o_targets o_weights), (wI g n_kind 0 12 n_gkind), (wI g n_pay 0 12 n_gpay), (wI g n_name 0 12 n_gname), (wI g n_ways 0 12 n_gways), (wI g n_held 0 12 n_gheld), (wI g n_targets 0 36 n_gtargets), (wI g n_weights 0 36 n_gweights), (wI g o_kind 0 12 o_fkind), (wI g o_pay 0 12 o_fpay), (wI g o_name 0 12 o_fname), (wI g o_ways 0 12 o_fways), (wI g o_held 0 12 o_fheld), (wI g o_targets 0 36 o_ftargets), (wI g o_weights 0 36 o_fweights)] t.heap ∧ va_D (va_A [(wO2 n n_nodes n_kind n_pay n_name n_ways n_held n_targets n_weights), (wO2 o o_nodes o_kind o_pay o_name o_ways o_held o_targets o_weights), (wI g n_kind 0 12 n_fkind), (wI g n_pay 0 12 n_fpay), (wI g n_name 0 12 n_fname), (wI g n_ways 0 12 n_fways), (wI g n_held 0 12 n_fheld), (wI g n_targets 0 36 n_ftargets), (wI g n_weights 0 36 n_fweights), (wI g o_kind 0 12 o_fkind), (wI g o_pay 0 12 o_fpay), (wI g o_name 0 12 o_fname), (wI g o_ways 0 12 o_fways), (wI g o_held 0 12 o_fheld), (wI g o_targets 0 36 o_ftargets), (wI g o_weights 0 36 o_fweights)] sz) [(wO2 n o_nodes n_kind n_pay n_name n_ways n_held n_targets n_weights), (wO2 o o_nodes o_kind o_pay o_name o_ways o_held o_targets o_weights), (wI g n_kind 0 12 n_gkind), (wI g n_pay 0 12 n_gpay), (wI g n_name 0 12 n_gname), (wI g n_ways 0 12 n_gways), (wI g n_held 0 12 n_gheld), (wI g n_targets 0 36 n_gtargets), (wI g n_weights 0 36 n_gweights), (wI g o_kind 0 12 o_fkind), (wI g o_pay 0 12 o_fpay), (wI g o_name 0 12 o_fname), (wI g o_ways 0 12 o_fways), (wI g o_held 0 12 o_fheld), (wI g o_targets 0 36 o_ftargets), (wI g o_weights 0 36 o_fweights)]) (va_A [(wO2 n n_nodes n_kind n_pay n_name n_ways n_held n_targets n_weights), (wO2 o o_nodes o_kind o_pay o_name o_ways o_held o_targets o_weights), (wI g n_kind 0 12 n_fkind), (wI g n_pay 0 12 n_fpay), (wI g n_name 0 12 n_fname), (wI g n_ways 0 12 n_fways), (wI g n_held 0 12 n_fheld), (wI g n_targets 0 36 n_ftargets), (wI g n_weights 0 36 n_fweights), (wI g o_kind 0 12 o_fkind), (wI g o_pay 0 12 o_fpay), (wI g o_name 0 12 o_fname), (wI g o_ways 0 12 o_fways), (wI g o_held 0 12 o_fheld), (wI g o_targets 0 36 o_ftargets), (wI g o_weights 0 36 o_fweights)] sz)) 0 0 (va_A [(wO2 n n_nodes n_kind n_pay n_name n_ways n_held n_targets n_weights), (wO2 o o_nodes o_kind o_pay o_name o_ways o_held o_targets o_weights), (wI g n_kind 0 12 n_fkind), (wI g n_pay 0 12 n_fpay), (wI g n_name 0 12 n_fname), (wI g n_ways 0 12 n_fways), (wI g n_held 0 12 n_fheld), (wI g n_targets 0 36 n_ftargets), (wI g n_weights 0 36 n_fweights), (wI g o_kind 0 12 o_fkind), (wI g o_pay 0 12 o_fpay), (wI g o_name 0 12 o_fname), (wI g o_ways 0 12 o_fways), (wI g o_held 0 12 o_fheld), (wI g o_targets 0 36 o_ftargets), (wI g o_weights 0 36 o_fweights)] sz) := by
  refine Met.ofW (cc := cX2_copyFrom) (maxL := 2) (ret := none) (by decide) rfl ?_
  intro p e s m args below meth c s₁ B hml hv
  obtain ⟨ha, hsz, hP, hK, hD0⟩ := hv
  have hx := B.exec
  have hb := B.bytes
  have hr := B.returns
  have hts0 := atoms_spec (ws := (.code yX2_copyFrom cX2_copyFrom 2 none :: wsL_law)) B.pre
  have hts : ∀ w ∈ wsL_law, w.before args s = true := fun w h => hts0 w (List.mem_cons_of_mem _ h)
  have hown : s.vm.findClass RX2 = some m.cls := findClass_of_methodNamed B.named
  have hlocks := B.notSynchronized
  subst hsz
  have hD := hD0.self (sz := s.heap.size)
  generalize hAe : va_A [(wO2 n n_nodes n_kind n_pay n_name n_ways n_held n_targets n_weights), (wO2 o o_nodes o_kind o_pay o_name o_ways o_held o_targets o_weights), (wI g n_kind 0 12 n_fkind), (wI g n_pay 0 12 n_fpay), (wI g n_name 0 12 n_fname), (wI g n_ways 0 12 n_fways), (wI g n_held 0 12 n_fheld), (wI g n_targets 0 36 n_ftargets), (wI g n_weights 0 36 n_fweights), (wI g o_kind 0 12 o_fkind), (wI g o_pay 0 12 o_fpay), (wI g o_name 0 12 o_fname), (wI g o_ways 0 12 o_fways), (wI g o_held 0 12 o_fheld), (wI g o_targets 0 36 o_ftargets), (wI g o_weights 0 36 o_fweights)] s.heap.size = A at hD ⊢
  have hA : ∀ q : Nat, s.heap.size ≤ q → A q := fun q h => by rw [← hAe]; exact Or.inr h
  have hS : va_S A s.heap s.heap [] := va_S.rf
  have hP : va_P D vwCl [(wO2 n n_nodes n_kind n_pay n_name n_ways n_held n_targets n_weights), (wO2 o o_nodes o_kind o_pay o_name o_ways o_held o_targets o_weights), (wI g n_kind 0 12 n_fkind), (wI g n_pay 0 12 n_fpay), (wI g n_name 0 12 n_fname), (wI g n_ways 0 12 n_fways), (wI g n_held 0 12 n_fheld), (wI g n_targets 0 36 n_ftargets), (wI g n_weights 0 36 n_fweights), (wI g o_kind 0 12 o_fkind), (wI g o_pay 0 12 o_fpay), (wI g o_name 0 12 o_fname), (wI g o_ways 0 12 o_fways), (wI g o_held 0 12 o_fheld), (wI g o_targets 0 36 o_ftargets), (wI g o_weights 0 36 o_fweights)] s.heap := hP
  refine W.eq (g2 := entryFrame m ([.ref n, .ref o] : List Value).toArray 2) (by rw [ha]) ?_
  have hl := lv_entry ([.ref n, .ref o]) (n := 2) (Nat.le_of_ble_eq_true rfl)
  rw [lg_entry_eq]
  generalize (lg_sl ([.ref n, .ref o]) ++ List.replicate (2 - (lg_sl ([.ref n, .ref o])).length) Slot.unset).toArray = ls at hl ⊢
  have hl : lv_has ls 2 [(0, .ref n), (1, .ref o)] := hl
  refine lv_aload_n hx hb dX2_copyFrom_0 rfl (lv_at hl 0 rfl) ?_
  refine lv_aload_n hx hb dX2_copyFrom_1 rfl (lv_at hl 1 rfl) ?_
  refine va_get (D := D) (ci := 2) (v := .int o_nodes) (C := RX2) (T := TX2) (N := 8) hx hb hts inlX2 hown hK hP 1 rfl rfl 0 (by decide) (hts (Cond.fieldLink RX2 33 "ChanceRings$Net" "nodes" "I") qw_313) (fun _ h9 => h9) rfl dX2_copyFrom_2 ?_
  refine va_put (D := D) (ci := 2) (v := .int o_nodes) (ty := .int) (C := RX2) (T := TX2) (N := 8) hx hb hts inlX2 tyX2 tyX2_ok nmX2 hown hK hP hD hS 0 rfl rfl 0 (by decide) (hts (Cond.fieldLink RX2 33 "ChanceRings$Net" "nodes" "I") qw_313) (fun _ h9 => h9) rfl (by decide +kernel) rfl rfl (Nat.le_of_ble_eq_true rfl) dX2_copyFrom_5 (fun H locs hP hD hS => ?_)
  have hP : va_P D vwCl [(wO2 n o_nodes n_kind n_pay n_name n_ways n_held n_targets n_weights), (wO2 o o_nodes o_kind o_pay o_name o_ways o_held o_targets o_weights), (wI g n_kind 0 12 n_fkind), (wI g n_pay 0 12 n_fpay), (wI g n_name 0 12 n_fname), (wI g n_ways 0 12 n_fways), (wI g n_held 0 12 n_fheld), (wI g n_targets 0 36 n_ftargets), (wI g n_weights 0 36 n_fweights), (wI g o_kind 0 12 o_fkind), (wI g o_pay 0 12 o_fpay), (wI g o_name 0 12 o_fname), (wI g o_ways 0 12 o_fways), (wI g o_held 0 12 o_fheld), (wI g o_targets 0 36 o_ftargets), (wI g o_weights 0 36 o_fweights)] H := hP
  have hD : va_D A [(wO2 n o_nodes n_kind n_pay n_name n_ways n_held n_targets n_weights), (wO2 o o_nodes o_kind o_pay o_name o_ways o_held o_targets o_weights), (wI g n_kind 0 12 n_fkind), (wI g n_pay 0 12 n_fpay), (wI g n_name 0 12 n_fname), (wI g n_ways 0 12 n_fways), (wI g n_held 0 12 n_fheld), (wI g n_targets 0 36 n_ftargets), (wI g n_weights 0 36 n_fweights), (wI g o_kind 0 12 o_fkind), (wI g o_pay 0 12 o_fpay), (wI g o_name 0 12 o_fname), (wI g o_ways 0 12 o_fways), (wI g o_held 0 12 o_fheld), (wI g o_targets 0 36 o_ftargets), (wI g o_weights 0 36 o_fweights)] := hD
  refine lv_aload_n hx hb dX2_copyFrom_8 rfl (lv_at hl 1 rfl) ?_
  refine va_get (D := D) (ci := 2) (v := .ref o_kind) (C := RX2) (T := TX2) (N := 8) hx hb hts inlX2 hown hK hP 1 rfl rfl 1 (by decide) (hts (Cond.fieldLink RX2 9 "ChanceRings$Net" "kind" "[I") qw_316) (fun _ h9 => h9) rfl dX2_copyFrom_9 ?_
  refine lv_iconst (v := 0) hx hb dX2_copyFrom_12 (by decide) ?_
  refine lv_aload_n hx hb dX2_copyFrom_13 rfl (lv_at hl 0 rfl) ?_
  refine va_get (D := D) (ci := 2) (v := .ref n_kind) (C := RX2) (T := TX2) (N := 8) hx hb hts inlX2 hown hK hP 0 rfl rfl 1 (by decide) (hts (Cond.fieldLink RX2 9 "ChanceRings$Net" "kind" "[I") qw_316) (fun _ h9 => h9) rfl dX2_copyFrom_14 ?_
  refine lv_iconst (v := 0) hx hb dX2_copyFrom_17 (by decide) ?_
  refine lv_bipush (v := 12) hx hb dX2_copyFrom_18 (by decide) ?_
  refine va_copyi (ty := .int) hx hb (by rw [hml]; exact hl.1.symm) hown (hts (Cond.methodLink RX2 37 arraycopyName) qw_342) (hts (Cond.native arraycopyName) qw_343) (hts (Cond.static arraycopyName) qw_344) (hts (Cond.initialized "java/lang/System") qw_345) hK hP hD hS 9 2 0 0 rfl rfl rfl rfl rfl (by decide) (by decide) (by decide) (by decide +kernel) (by decide +kernel) (fun _ _ => rfl) (Nat.le_of_ble_eq_true rfl) (Nat.le_of_ble_eq_true rfl) dX2_copyFrom_20 (fun H locs hP hD hS => ?_)
  obtain ⟨f_60132, f_60132_e, h_f_60132, hP, hD⟩ : ∃ FX : Nat → Int32, FX = va_cpy o_fkind n_fkind 0 0 12 ∧ (∀ j : Nat, 0 ≤ (FX j).toInt ∧ (FX j).toInt ≤ 3) ∧ va_P D vwCl [(wO2 n o_nodes n_kind n_pay n_name n_ways n_held n_targets n_weights), (wO2 o o_nodes o_kind o_pay o_name o_ways o_held o_targets o_weights), (wI g n_kind 0 12 FX), (wI g n_pay 0 12 n_fpay), (wI g n_name 0 12 n_fname), (wI g n_ways 0 12 n_fways), (wI g n_held 0 12 n_fheld), (wI g n_targets 0 36 n_ftargets), (wI g n_weights 0 36 n_fweights), (wI g o_kind 0 12 o_fkind), (wI g o_pay 0 12 o_fpay), (wI g o_name 0 12 o_fname), (wI g o_ways 0 12 o_fways), (wI g o_held 0 12 o_fheld), (wI g o_targets 0 36 o_ftargets), (wI g o_weights 0 36 o_fweights)] H ∧ va_D A [(wO2 n o_nodes n_kind n_pay n_name n_ways n_held n_targets n_weights), (wO2 o o_nodes o_kind o_pay o_name o_ways o_held o_targets o_weights), (wI g n_kind 0 12 FX), (wI g n_pay 0 12 n_fpay), (wI g n_name 0 12 n_fname), (wI g n_ways 0 12 n_fways), (wI g n_held 0 12 n_fheld), (wI g n_targets 0 36 n_ftargets), (wI g n_weights 0 36 n_fweights), (wI g o_kind 0 12 o_fkind), (wI g o_pay 0 12 o_fpay), (wI g o_name 0 12 o_fname), (wI g o_ways 0 12 o_fways), (wI g o_held 0 12 o_fheld), (wI g o_targets 0 36 o_ftargets), (wI g o_weights 0 36 o_fweights)] := ⟨_, rfl, tr_cpy (tr_wa h_o_fkind (by decide) (by decide)) h_n_fkind, hP, hD⟩
  have hP : va_P D vwCl [(wO2 n o_nodes n_kind n_pay n_name n_ways n_held n_targets n_weights), (wO2 o o_nodes o_kind o_pay o_name o_ways o_held o_targets o_weights), (wI g n_kind 0 12 f_60132), (wI g n_pay 0 12 n_fpay), (wI g n_name 0 12 n_fname), (wI g n_ways 0 12 n_fways), (wI g n_held 0 12 n_fheld), (wI g n_targets 0 36 n_ftargets), (wI g n_weights 0 36 n_fweights), (wI g o_kind 0 12 o_fkind), (wI g o_pay 0 12 o_fpay), (wI g o_name 0 12 o_fname), (wI g o_ways 0 12 o_fways), (wI g o_held 0 12 o_fheld), (wI g o_targets 0 36 o_ftargets), (wI g o_weights 0 36 o_fweights)] H := hP
  have hD : va_D A [(wO2 n o_nodes n_kind n_pay n_name n_ways n_held n_targets n_weights), (wO2 o o_nodes o_kind o_pay o_name o_ways o_held o_targets o_weights), (wI g n_kind 0 12 f_60132), (wI g n_pay 0 12 n_fpay), (wI g n_name 0 12 n_fname), (wI g n_ways 0 12 n_fways), (wI g n_held 0 12 n_fheld), (wI g n_targets 0 36 n_ftargets), (wI g n_weights 0 36 n_fweights), (wI g o_kind 0 12 o_fkind), (wI g o_pay 0 12 o_fpay), (wI g o_name 0 12 o_fname), (wI g o_ways 0 12 o_fways), (wI g o_held 0 12 o_fheld), (wI g o_targets 0 36 o_ftargets), (wI g o_weights 0 36 o_fweights)] := hD
  refine lv_aload_n hx hb dX2_copyFrom_23 rfl (lv_at hl 1 rfl) ?_
  refine va_get (D := D) (ci := 2) (v := .ref o_pay) (C := RX2) (T := TX2) (N := 8) hx hb hts inlX2 hown hK hP 1 rfl rfl 2 (by decide) (hts (Cond.fieldLink RX2 15 "ChanceRings$Net" "pay" "[I") qw_317) (fun _ h9 => h9) rfl dX2_copyFrom_24 ?_
  refine lv_iconst (v := 0) hx hb dX2_copyFrom_27 (by decide) ?_
  refine lv_aload_n hx hb dX2_copyFrom_28 rfl (lv_at hl 0 rfl) ?_
  refine va_get (D := D) (ci := 2) (v := .ref n_pay) (C := RX2) (T := TX2) (N := 8) hx hb hts inlX2 hown hK hP 0 rfl rfl 2 (by decide) (hts (Cond.fieldLink RX2 15 "ChanceRings$Net" "pay" "[I") qw_317) (fun _ h9 => h9) rfl dX2_copyFrom_29 ?_
  refine lv_iconst (v := 0) hx hb dX2_copyFrom_32 (by decide) ?_
  refine lv_bipush (v := 12) hx hb dX2_copyFrom_33 (by decide) ?_
  refine va_copyi (ty := .int) hx hb (by rw [hml]; exact hl.1.symm) hown (hts (Cond.methodLink RX2 37 arraycopyName) qw_342) (hts (Cond.native arraycopyName) qw_343) (hts (Cond.static arraycopyName) qw_344) (hts (Cond.initialized "java/lang/System") qw_345) hK hP hD hS 10 3 0 0 rfl rfl rfl rfl rfl (by decide) (by decide) (by decide) (by decide +kernel) (by decide +kernel) (fun _ _ => rfl) (Nat.le_of_ble_eq_true rfl) (Nat.le_of_ble_eq_true rfl) dX2_copyFrom_35 (fun H locs hP hD hS => ?_)
  obtain ⟨f_60133, f_60133_e, hP, hD⟩ : ∃ FX : Nat → Int32, FX = va_cpy o_fpay n_fpay 0 0 12 ∧ va_P D vwCl [(wO2 n o_nodes n_kind n_pay n_name n_ways n_held n_targets n_weights), (wO2 o o_nodes o_kind o_pay o_name o_ways o_held o_targets o_weights), (wI g n_kind 0 12 f_60132), (wI g n_pay 0 12 FX), (wI g n_name 0 12 n_fname), (wI g n_ways 0 12 n_fways), (wI g n_held 0 12 n_fheld), (wI g n_targets 0 36 n_ftargets), (wI g n_weights 0 36 n_fweights), (wI g o_kind 0 12 o_fkind), (wI g o_pay 0 12 o_fpay), (wI g o_name 0 12 o_fname), (wI g o_ways 0 12 o_fways), (wI g o_held 0 12 o_fheld), (wI g o_targets 0 36 o_ftargets), (wI g o_weights 0 36 o_fweights)] H ∧ va_D A [(wO2 n o_nodes n_kind n_pay n_name n_ways n_held n_targets n_weights), (wO2 o o_nodes o_kind o_pay o_name o_ways o_held o_targets o_weights), (wI g n_kind 0 12 f_60132), (wI g n_pay 0 12 FX), (wI g n_name 0 12 n_fname), (wI g n_ways 0 12 n_fways), (wI g n_held 0 12 n_fheld), (wI g n_targets 0 36 n_ftargets), (wI g n_weights 0 36 n_fweights), (wI g o_kind 0 12 o_fkind), (wI g o_pay 0 12 o_fpay), (wI g o_name 0 12 o_fname), (wI g o_ways 0 12 o_fways), (wI g o_held 0 12 o_fheld), (wI g o_targets 0 36 o_ftargets), (wI g o_weights 0 36 o_fweights)] := ⟨_, rfl, hP, hD⟩
  have hP : va_P D vwCl [(wO2 n o_nodes n_kind n_pay n_name n_ways n_held n_targets n_weights), (wO2 o o_nodes o_kind o_pay o_name o_ways o_held o_targets o_weights), (wI g n_kind 0 12 f_60132), (wI g n_pay 0 12 f_60133), (wI g n_name 0 12 n_fname), (wI g n_ways 0 12 n_fways), (wI g n_held 0 12 n_fheld), (wI g n_targets 0 36 n_ftargets), (wI g n_weights 0 36 n_fweights), (wI g o_kind 0 12 o_fkind), (wI g o_pay 0 12 o_fpay), (wI g o_name 0 12 o_fname), (wI g o_ways 0 12 o_fways), (wI g o_held 0 12 o_fheld), (wI g o_targets 0 36 o_ftargets), (wI g o_weights 0 36 o_fweights)] H := hP
  have hD : va_D A [(wO2 n o_nodes n_kind n_pay n_name n_ways n_held n_targets n_weights), (wO2 o o_nodes o_kind o_pay o_name o_ways o_held o_targets o_weights), (wI g n_kind 0 12 f_60132), (wI g n_pay 0 12 f_60133), (wI g n_name 0 12 n_fname), (wI g n_ways 0 12 n_fways), (wI g n_held 0 12 n_fheld), (wI g n_targets 0 36 n_ftargets), (wI g n_weights 0 36 n_fweights), (wI g o_kind 0 12 o_fkind), (wI g o_pay 0 12 o_fpay), (wI g o_name 0 12 o_fname), (wI g o_ways 0 12 o_fways), (wI g o_held 0 12 o_fheld), (wI g o_targets 0 36 o_ftargets), (wI g o_weights 0 36 o_fweights)] := hD
  refine lv_aload_n hx hb dX2_copyFrom_38 rfl (lv_at hl 1 rfl) ?_
  refine va_get (D := D) (ci := 2) (v := .ref o_name) (C := RX2) (T := TX2) (N := 8) hx hb hts inlX2 hown hK hP 1 rfl rfl 3 (by decide) (hts (Cond.fieldLink RX2 18 "ChanceRings$Net" "name" "[I") qw_333) (fun _ h9 => h9) rfl dX2_copyFrom_39 ?_
  refine lv_iconst (v := 0) hx hb dX2_copyFrom_42 (by decide) ?_
  refine lv_aload_n hx hb dX2_copyFrom_43 rfl (lv_at hl 0 rfl) ?_
  refine va_get (D := D) (ci := 2) (v := .ref n_name) (C := RX2) (T := TX2) (N := 8) hx hb hts inlX2 hown hK hP 0 rfl rfl 3 (by decide) (hts (Cond.fieldLink RX2 18 "ChanceRings$Net" "name" "[I") qw_333) (fun _ h9 => h9) rfl dX2_copyFrom_44 ?_
  refine lv_iconst (v := 0) hx hb dX2_copyFrom_47 (by decide) ?_
  refine lv_bipush (v := 12) hx hb dX2_copyFrom_48 (by decide) ?_
  refine va_copyi (ty := .int) hx hb (by rw [hml]; exact hl.1.symm) hown (hts (Cond.methodLink RX2 37 arraycopyName) qw_342) (hts (Cond.native arraycopyName) qw_343) (hts (Cond.static arraycopyName) qw_344) (hts (Cond.initialized "java/lang/System") qw_345) hK hP hD hS 11 4 0 0 rfl rfl rfl rfl rfl (by decide) (by decide) (by decide) (by decide +kernel) (by decide +kernel) (fun _ _ => rfl) (Nat.le_of_ble_eq_true rfl) (Nat.le_of_ble_eq_true rfl) dX2_copyFrom_50 (fun H locs hP hD hS => ?_)
  obtain ⟨f_60134, f_60134_e, hP, hD⟩ : ∃ FX : Nat → Int32, FX = va_cpy o_fname n_fname 0 0 12 ∧ va_P D vwCl [(wO2 n o_nodes n_kind n_pay n_name n_ways n_held n_targets n_weights), (wO2 o o_nodes o_kind o_pay o_name o_ways o_held o_targets o_weights), (wI g n_kind 0 12 f_60132), (wI g n_pay 0 12 f_60133), (wI g n_name 0 12 FX), (wI g n_ways 0 12 n_fways), (wI g n_held 0 12 n_fheld), (wI g n_targets 0 36 n_ftargets), (wI g n_weights 0 36 n_fweights), (wI g o_kind 0 12 o_fkind), (wI g o_pay 0 12 o_fpay), (wI g o_name 0 12 o_fname), (wI g o_ways 0 12 o_fways), (wI g o_held 0 12 o_fheld), (wI g o_targets 0 36 o_ftargets), (wI g o_weights 0 36 o_fweights)] H ∧ va_D A [(wO2 n o_nodes n_kind n_pay n_name n_ways n_held n_targets n_weights), (wO2 o o_nodes o_kind o_pay o_name o_ways o_held o_targets o_weights), (wI g n_kind 0 12 f_60132), (wI g n_pay 0 12 f_60133), (wI g n_name 0 12 FX), (wI g n_ways 0 12 n_fways), (wI g n_held 0 12 n_fheld), (wI g n_targets 0 36 n_ftargets), (wI g n_weights 0 36 n_fweights), (wI g o_kind 0 12 o_fkind), (wI g o_pay 0 12 o_fpay), (wI g o_name 0 12 o_fname), (wI g o_ways 0 12 o_fways), (wI g o_held 0 12 o_fheld), (wI g o_targets 0 36 o_ftargets), (wI g o_weights 0 36 o_fweights)] := ⟨_, rfl, hP, hD⟩
  have hP : va_P D vwCl [(wO2 n o_nodes n_kind n_pay n_name n_ways n_held n_targets n_weights), (wO2 o o_nodes o_kind o_pay o_name o_ways o_held o_targets o_weights), (wI g n_kind 0 12 f_60132), (wI g n_pay 0 12 f_60133), (wI g n_name 0 12 f_60134), (wI g n_ways 0 12 n_fways), (wI g n_held 0 12 n_fheld), (wI g n_targets 0 36 n_ftargets), (wI g n_weights 0 36 n_fweights), (wI g o_kind 0 12 o_fkind), (wI g o_pay 0 12 o_fpay), (wI g o_name 0 12 o_fname), (wI g o_ways 0 12 o_fways), (wI g o_held 0 12 o_fheld), (wI g o_targets 0 36 o_ftargets), (wI g o_weights 0 36 o_fweights)] H := hP
  have hD : va_D A [(wO2 n o_nodes n_kind n_pay n_name n_ways n_held n_targets n_weights), (wO2 o o_nodes o_kind o_pay o_name o_ways o_held o_targets o_weights), (wI g n_kind 0 12 f_60132), (wI g n_pay 0 12 f_60133), (wI g n_name 0 12 f_60134), (wI g n_ways 0 12 n_fways), (wI g n_held 0 12 n_fheld), (wI g n_targets 0 36 n_ftargets), (wI g n_weights 0 36 n_fweights), (wI g o_kind 0 12 o_fkind), (wI g o_pay 0 12 o_fpay), (wI g o_name 0 12 o_fname), (wI g o_ways 0 12 o_fways), (wI g o_held 0 12 o_fheld), (wI g o_targets 0 36 o_ftargets), (wI g o_weights 0 36 o_fweights)] := hD
  refine lv_aload_n hx hb dX2_copyFrom_53 rfl (lv_at hl 1 rfl) ?_
  refine va_get (D := D) (ci := 2) (v := .ref o_ways) (C := RX2) (T := TX2) (N := 8) hx hb hts inlX2 hown hK hP 1 rfl rfl 4 (by decide) (hts (Cond.fieldLink RX2 21 "ChanceRings$Net" "ways" "[I") qw_318) (fun _ h9 => h9) rfl dX2_copyFrom_54 ?_
  refine lv_iconst (v := 0) hx hb dX2_copyFrom_57 (by decide) ?_
  refine lv_aload_n hx hb dX2_copyFrom_58 rfl (lv_at hl 0 rfl) ?_
  refine va_get (D := D) (ci := 2) (v := .ref n_ways) (C := RX2) (T := TX2) (N := 8) hx hb hts inlX2 hown hK hP 0 rfl rfl 4 (by decide) (hts (Cond.fieldLink RX2 21 "ChanceRings$Net" "ways" "[I") qw_318) (fun _ h9 => h9) rfl dX2_copyFrom_59 ?_
  refine lv_iconst (v := 0) hx hb dX2_copyFrom_62 (by decide) ?_
  refine lv_bipush (v := 12) hx hb dX2_copyFrom_63 (by decide) ?_
  refine va_copyi (ty := .int) hx hb (by rw [hml]; exact hl.1.symm) hown (hts (Cond.methodLink RX2 37 arraycopyName) qw_342) (hts (Cond.native arraycopyName) qw_343) (hts (Cond.static arraycopyName) qw_344) (hts (Cond.initialized "java/lang/System") qw_345) hK hP hD hS 12 5 0 0 rfl rfl rfl rfl rfl (by decide) (by decide) (by decide) (by decide +kernel) (by decide +kernel) (fun _ _ => rfl) (Nat.le_of_ble_eq_true rfl) (Nat.le_of_ble_eq_true rfl) dX2_copyFrom_65 (fun H locs hP hD hS => ?_)
  obtain ⟨f_60135, f_60135_e, h_f_60135, hP, hD⟩ : ∃ FX : Nat → Int32, FX = va_cpy o_fways n_fways 0 0 12 ∧ (∀ j : Nat, 0 ≤ (FX j).toInt ∧ (FX j).toInt ≤ 3) ∧ va_P D vwCl [(wO2 n o_nodes n_kind n_pay n_name n_ways n_held n_targets n_weights), (wO2 o o_nodes o_kind o_pay o_name o_ways o_held o_targets o_weights), (wI g n_kind 0 12 f_60132), (wI g n_pay 0 12 f_60133), (wI g n_name 0 12 f_60134), (wI g n_ways 0 12 FX), (wI g n_held 0 12 n_fheld), (wI g n_targets 0 36 n_ftargets), (wI g n_weights 0 36 n_fweights), (wI g o_kind 0 12 o_fkind), (wI g o_pay 0 12 o_fpay), (wI g o_name 0 12 o_fname), (wI g o_ways 0 12 o_fways), (wI g o_held 0 12 o_fheld), (wI g o_targets 0 36 o_ftargets), (wI g o_weights 0 36 o_fweights)] H ∧ va_D A [(wO2 n o_nodes n_kind n_pay n_name n_ways n_held n_targets n_weights), (wO2 o o_nodes o_kind o_pay o_name o_ways o_held o_targets o_weights), (wI g n_kind 0 12 f_60132), (wI g n_pay 0 12 f_60133), (wI g n_name 0 12 f_60134), (wI g n_ways 0 12 FX), (wI g n_held 0 12 n_fheld), (wI g n_targets 0 36 n_ftargets), (wI g n_weights 0 36 n_fweights), (wI g o_kind 0 12 o_fkind), (wI g o_pay 0 12 o_fpay), (wI g o_name 0 12 o_fname), (wI g o_ways 0 12 o_fways), (wI g o_held 0 12 o_fheld), (wI g o_targets 0 36 o_ftargets), (wI g o_weights 0 36 o_fweights)] := ⟨_, rfl, tr_cpy (tr_wa h_o_fways (by decide) (by decide)) h_n_fways, hP, hD⟩
  have hP : va_P D vwCl [(wO2 n o_nodes n_kind n_pay n_name n_ways n_held n_targets n_weights), (wO2 o o_nodes o_kind o_pay o_name o_ways o_held o_targets o_weights), (wI g n_kind 0 12 f_60132), (wI g n_pay 0 12 f_60133), (wI g n_name 0 12 f_60134), (wI g n_ways 0 12 f_60135), (wI g n_held 0 12 n_fheld), (wI g n_targets 0 36 n_ftargets), (wI g n_weights 0 36 n_fweights), (wI g o_kind 0 12 o_fkind), (wI g o_pay 0 12 o_fpay), (wI g o_name 0 12 o_fname), (wI g o_ways 0 12 o_fways), (wI g o_held 0 12 o_fheld), (wI g o_targets 0 36 o_ftargets), (wI g o_weights 0 36 o_fweights)] H := hP
  have hD : va_D A [(wO2 n o_nodes n_kind n_pay n_name n_ways n_held n_targets n_weights), (wO2 o o_nodes o_kind o_pay o_name o_ways o_held o_targets o_weights), (wI g n_kind 0 12 f_60132), (wI g n_pay 0 12 f_60133), (wI g n_name 0 12 f_60134), (wI g n_ways 0 12 f_60135), (wI g n_held 0 12 n_fheld), (wI g n_targets 0 36 n_ftargets), (wI g n_weights 0 36 n_fweights), (wI g o_kind 0 12 o_fkind), (wI g o_pay 0 12 o_fpay), (wI g o_name 0 12 o_fname), (wI g o_ways 0 12 o_fways), (wI g o_held 0 12 o_fheld), (wI g o_targets 0 36 o_ftargets), (wI g o_weights 0 36 o_fweights)] := hD
  refine lv_aload_n hx hb dX2_copyFrom_68 rfl (lv_at hl 1 rfl) ?_
  refine va_get (D := D) (ci := 2) (v := .ref o_held) (C := RX2) (T := TX2) (N := 8) hx hb hts inlX2 hown hK hP 1 rfl rfl 5 (by decide) (hts (Cond.fieldLink RX2 24 "ChanceRings$Net" "held" "[I") qw_314) (fun _ h9 => h9) rfl dX2_copyFrom_69 ?_
  refine lv_iconst (v := 0) hx hb dX2_copyFrom_72 (by decide) ?_
  refine lv_aload_n hx hb dX2_copyFrom_73 rfl (lv_at hl 0 rfl) ?_
  refine va_get (D := D) (ci := 2) (v := .ref n_held) (C := RX2) (T := TX2) (N := 8) hx hb hts inlX2 hown hK hP 0 rfl rfl 5 (by decide) (hts (Cond.fieldLink RX2 24 "ChanceRings$Net" "held" "[I") qw_314) (fun _ h9 => h9) rfl dX2_copyFrom_74 ?_
  refine lv_iconst (v := 0) hx hb dX2_copyFrom_77 (by decide) ?_
  refine lv_bipush (v := 12) hx hb dX2_copyFrom_78 (by decide) ?_
  refine va_copyi (ty := .int) hx hb (by rw [hml]; exact hl.1.symm) hown (hts (Cond.methodLink RX2 37 arraycopyName) qw_342) (hts (Cond.native arraycopyName) qw_343) (hts (Cond.static arraycopyName) qw_344) (hts (Cond.initialized "java/lang/System") qw_345) hK hP hD hS 13 6 0 0 rfl rfl rfl rfl rfl (by decide) (by decide) (by decide) (by decide +kernel) (by decide +kernel) (fun _ _ => rfl) (Nat.le_of_ble_eq_true rfl) (Nat.le_of_ble_eq_true rfl) dX2_copyFrom_80 (fun H locs hP hD hS => ?_)
  obtain ⟨f_60136, f_60136_e, h_f_60136, hP, hD⟩ : ∃ FX : Nat → Int32, FX = va_cpy o_fheld n_fheld 0 0 12 ∧ (∀ j : Nat, (-1) ≤ (FX j).toInt ∧ (FX j).toInt ≤ 2) ∧ va_P D vwCl [(wO2 n o_nodes n_kind n_pay n_name n_ways n_held n_targets n_weights), (wO2 o o_nodes o_kind o_pay o_name o_ways o_held o_targets o_weights), (wI g n_kind 0 12 f_60132), (wI g n_pay 0 12 f_60133), (wI g n_name 0 12 f_60134), (wI g n_ways 0 12 f_60135), (wI g n_held 0 12 FX), (wI g n_targets 0 36 n_ftargets), (wI g n_weights 0 36 n_fweights), (wI g o_kind 0 12 o_fkind), (wI g o_pay 0 12 o_fpay), (wI g o_name 0 12 o_fname), (wI g o_ways 0 12 o_fways), (wI g o_held 0 12 o_fheld), (wI g o_targets 0 36 o_ftargets), (wI g o_weights 0 36 o_fweights)] H ∧ va_D A [(wO2 n o_nodes n_kind n_pay n_name n_ways n_held n_targets n_weights), (wO2 o o_nodes o_kind o_pay o_name o_ways o_held o_targets o_weights), (wI g n_kind 0 12 f_60132), (wI g n_pay 0 12 f_60133), (wI g n_name 0 12 f_60134), (wI g n_ways 0 12 f_60135), (wI g n_held 0 12 FX), (wI g n_targets 0 36 n_ftargets), (wI g n_weights 0 36 n_fweights), (wI g o_kind 0 12 o_fkind), (wI g o_pay 0 12 o_fpay), (wI g o_name 0 12 o_fname), (wI g o_ways 0 12 o_fways), (wI g o_held 0 12 o_fheld), (wI g o_targets 0 36 o_ftargets), (wI g o_weights 0 36 o_fweights)] := ⟨_, rfl, tr_cpy (tr_wa h_o_fheld (by decide) (by decide)) h_n_fheld, hP, hD⟩
  have hP : va_P D vwCl [(wO2 n o_nodes n_kind n_pay n_name n_ways n_held n_targets n_weights), (wO2 o o_nodes o_kind o_pay o_name o_ways o_held o_targets o_weights), (wI g n_kind 0 12 f_60132), (wI g n_pay 0 12 f_60133), (wI g n_name 0 12 f_60134), (wI g n_ways 0 12 f_60135), (wI g n_held 0 12 f_60136), (wI g n_targets 0 36 n_ftargets), (wI g n_weights 0 36 n_fweights), (wI g o_kind 0 12 o_fkind), (wI g o_pay 0 12 o_fpay), (wI g o_name 0 12 o_fname), (wI g o_ways 0 12 o_fways), (wI g o_held 0 12 o_fheld), (wI g o_targets 0 36 o_ftargets), (wI g o_weights 0 36 o_fweights)] H := hP
  have hD : va_D A [(wO2 n o_nodes n_kind n_pay n_name n_ways n_held n_targets n_weights), (wO2 o o_nodes o_kind o_pay o_name o_ways o_held o_targets o_weights), (wI g n_kind 0 12 f_60132), (wI g n_pay 0 12 f_60133), (wI g n_name 0 12 f_60134), (wI g n_ways 0 12 f_60135), (wI g n_held 0 12 f_60136), (wI g n_targets 0 36 n_ftargets), (wI g n_weights 0 36 n_fweights), (wI g o_kind 0 12 o_fkind), (wI g o_pay 0 12 o_fpay), (wI g o_name 0 12 o_fname), (wI g o_ways 0 12 o_fways), (wI g o_held 0 12 o_fheld), (wI g o_targets 0 36 o_ftargets), (wI g o_weights 0 36 o_fweights)] := hD
  refine lv_aload_n hx hb dX2_copyFrom_83 rfl (lv_at hl 1 rfl) ?_
  refine va_get (D := D) (ci := 2) (v := .ref o_targets) (C := RX2) (T := TX2) (N := 8) hx hb hts inlX2 hown hK hP 1 rfl rfl 6 (by decide) (hts (Cond.fieldLink RX2 27 "ChanceRings$Net" "targets" "[I") qw_315) (fun _ h9 => h9) rfl dX2_copyFrom_84 ?_
  refine lv_iconst (v := 0) hx hb dX2_copyFrom_87 (by decide) ?_
  refine lv_aload_n hx hb dX2_copyFrom_88 rfl (lv_at hl 0 rfl) ?_
  refine va_get (D := D) (ci := 2) (v := .ref n_targets) (C := RX2) (T := TX2) (N := 8) hx hb hts inlX2 hown hK hP 0 rfl rfl 6 (by decide) (hts (Cond.fieldLink RX2 27 "ChanceRings$Net" "targets" "[I") qw_315) (fun _ h9 => h9) rfl dX2_copyFrom_89 ?_
  refine lv_iconst (v := 0) hx hb dX2_copyFrom_92 (by decide) ?_
  refine lv_bipush (v := 36) hx hb dX2_copyFrom_93 (by decide) ?_
  refine va_copyi (ty := .int) hx hb (by rw [hml]; exact hl.1.symm) hown (hts (Cond.methodLink RX2 37 arraycopyName) qw_342) (hts (Cond.native arraycopyName) qw_343) (hts (Cond.static arraycopyName) qw_344) (hts (Cond.initialized "java/lang/System") qw_345) hK hP hD hS 14 7 0 0 rfl rfl rfl rfl rfl (by decide) (by decide) (by decide) (by decide +kernel) (by decide +kernel) (fun _ _ => rfl) (Nat.le_of_ble_eq_true rfl) (Nat.le_of_ble_eq_true rfl) dX2_copyFrom_95 (fun H locs hP hD hS => ?_)
  obtain ⟨f_60137, f_60137_e, h_f_60137, hP, hD⟩ : ∃ FX : Nat → Int32, FX = va_cpy o_ftargets n_ftargets 0 0 36 ∧ (∀ j : Nat, 0 ≤ (FX j).toInt ∧ (FX j).toInt ≤ 11) ∧ va_P D vwCl [(wO2 n o_nodes n_kind n_pay n_name n_ways n_held n_targets n_weights), (wO2 o o_nodes o_kind o_pay o_name o_ways o_held o_targets o_weights), (wI g n_kind 0 12 f_60132), (wI g n_pay 0 12 f_60133), (wI g n_name 0 12 f_60134), (wI g n_ways 0 12 f_60135), (wI g n_held 0 12 f_60136), (wI g n_targets 0 36 FX), (wI g n_weights 0 36 n_fweights), (wI g o_kind 0 12 o_fkind), (wI g o_pay 0 12 o_fpay), (wI g o_name 0 12 o_fname), (wI g o_ways 0 12 o_fways), (wI g o_held 0 12 o_fheld), (wI g o_targets 0 36 o_ftargets), (wI g o_weights 0 36 o_fweights)] H ∧ va_D A [(wO2 n o_nodes n_kind n_pay n_name n_ways n_held n_targets n_weights), (wO2 o o_nodes o_kind o_pay o_name o_ways o_held o_targets o_weights), (wI g n_kind 0 12 f_60132), (wI g n_pay 0 12 f_60133), (wI g n_name 0 12 f_60134), (wI g n_ways 0 12 f_60135), (wI g n_held 0 12 f_60136), (wI g n_targets 0 36 FX), (wI g n_weights 0 36 n_fweights), (wI g o_kind 0 12 o_fkind), (wI g o_pay 0 12 o_fpay), (wI g o_name 0 12 o_fname), (wI g o_ways 0 12 o_fways), (wI g o_held 0 12 o_fheld), (wI g o_targets 0 36 o_ftargets), (wI g o_weights 0 36 o_fweights)] := ⟨_, rfl, tr_cpy (tr_wa h_o_ftargets (by decide) (by decide)) h_n_ftargets, hP, hD⟩
  have hP : va_P D vwCl [(wO2 n o_nodes n_kind n_pay n_name n_ways n_held n_targets n_weights), (wO2 o o_nodes o_kind o_pay o_name o_ways o_held o_targets o_weights), (wI g n_kind 0 12 f_60132), (wI g n_pay 0 12 f_60133), (wI g n_name 0 12 f_60134), (wI g n_ways 0 12 f_60135), (wI g n_held 0 12 f_60136), (wI g n_targets 0 36 f_60137), (wI g n_weights 0 36 n_fweights), (wI g o_kind 0 12 o_fkind), (wI g o_pay 0 12 o_fpay), (wI g o_name 0 12 o_fname), (wI g o_ways 0 12 o_fways), (wI g o_held 0 12 o_fheld), (wI g o_targets 0 36 o_ftargets), (wI g o_weights 0 36 o_fweights)] H := hP
  have hD : va_D A [(wO2 n o_nodes n_kind n_pay n_name n_ways n_held n_targets n_weights), (wO2 o o_nodes o_kind o_pay o_name o_ways o_held o_targets o_weights), (wI g n_kind 0 12 f_60132), (wI g n_pay 0 12 f_60133), (wI g n_name 0 12 f_60134), (wI g n_ways 0 12 f_60135), (wI g n_held 0 12 f_60136), (wI g n_targets 0 36 f_60137), (wI g n_weights 0 36 n_fweights), (wI g o_kind 0 12 o_fkind), (wI g o_pay 0 12 o_fpay), (wI g o_name 0 12 o_fname), (wI g o_ways 0 12 o_fways), (wI g o_held 0 12 o_fheld), (wI g o_targets 0 36 o_ftargets), (wI g o_weights 0 36 o_fweights)] := hD
  refine lv_aload_n hx hb dX2_copyFrom_98 rfl (lv_at hl 1 rfl) ?_
  refine va_get (D := D) (ci := 2) (v := .ref o_weights) (C := RX2) (T := TX2) (N := 8) hx hb hts inlX2 hown hK hP 1 rfl rfl 7 (by decide) (hts (Cond.fieldLink RX2 30 "ChanceRings$Net" "weights" "[I") qw_332) (fun _ h9 => h9) rfl dX2_copyFrom_99 ?_
  refine lv_iconst (v := 0) hx hb dX2_copyFrom_102 (by decide) ?_
  refine lv_aload_n hx hb dX2_copyFrom_103 rfl (lv_at hl 0 rfl) ?_
  refine va_get (D := D) (ci := 2) (v := .ref n_weights) (C := RX2) (T := TX2) (N := 8) hx hb hts inlX2 hown hK hP 0 rfl rfl 7 (by decide) (hts (Cond.fieldLink RX2 30 "ChanceRings$Net" "weights" "[I") qw_332) (fun _ h9 => h9) rfl dX2_copyFrom_104 ?_
  refine lv_iconst (v := 0) hx hb dX2_copyFrom_107 (by decide) ?_
  refine lv_bipush (v := 36) hx hb dX2_copyFrom_108 (by decide) ?_
  refine va_copyi (ty := .int) hx hb (by rw [hml]; exact hl.1.symm) hown (hts (Cond.methodLink RX2 37 arraycopyName) qw_342) (hts (Cond.native arraycopyName) qw_343) (hts (Cond.static arraycopyName) qw_344) (hts (Cond.initialized "java/lang/System") qw_345) hK hP hD hS 15 8 0 0 rfl rfl rfl rfl rfl (by decide) (by decide) (by decide) (by decide +kernel) (by decide +kernel) (fun _ _ => rfl) (Nat.le_of_ble_eq_true rfl) (Nat.le_of_ble_eq_true rfl) dX2_copyFrom_110 (fun H locs hP hD hS => ?_)
  obtain ⟨f_60138, f_60138_e, hP, hD⟩ : ∃ FX : Nat → Int32, FX = va_cpy o_fweights n_fweights 0 0 36 ∧ va_P D vwCl [(wO2 n o_nodes n_kind n_pay n_name n_ways n_held n_targets n_weights), (wO2 o o_nodes o_kind o_pay o_name o_ways o_held o_targets o_weights), (wI g n_kind 0 12 f_60132), (wI g n_pay 0 12 f_60133), (wI g n_name 0 12 f_60134), (wI g n_ways 0 12 f_60135), (wI g n_held 0 12 f_60136), (wI g n_targets 0 36 f_60137), (wI g n_weights 0 36 FX), (wI g o_kind 0 12 o_fkind), (wI g o_pay 0 12 o_fpay), (wI g o_name 0 12 o_fname), (wI g o_ways 0 12 o_fways), (wI g o_held 0 12 o_fheld), (wI g o_targets 0 36 o_ftargets), (wI g o_weights 0 36 o_fweights)] H ∧ va_D A [(wO2 n o_nodes n_kind n_pay n_name n_ways n_held n_targets n_weights), (wO2 o o_nodes o_kind o_pay o_name o_ways o_held o_targets o_weights), (wI g n_kind 0 12 f_60132), (wI g n_pay 0 12 f_60133), (wI g n_name 0 12 f_60134), (wI g n_ways 0 12 f_60135), (wI g n_held 0 12 f_60136), (wI g n_targets 0 36 f_60137), (wI g n_weights 0 36 FX), (wI g o_kind 0 12 o_fkind), (wI g o_pay 0 12 o_fpay), (wI g o_name 0 12 o_fname), (wI g o_ways 0 12 o_fways), (wI g o_held 0 12 o_fheld), (wI g o_targets 0 36 o_ftargets), (wI g o_weights 0 36 o_fweights)] := ⟨_, rfl, hP, hD⟩
  have hP : va_P D vwCl [(wO2 n o_nodes n_kind n_pay n_name n_ways n_held n_targets n_weights), (wO2 o o_nodes o_kind o_pay o_name o_ways o_held o_targets o_weights), (wI g n_kind 0 12 f_60132), (wI g n_pay 0 12 f_60133), (wI g n_name 0 12 f_60134), (wI g n_ways 0 12 f_60135), (wI g n_held 0 12 f_60136), (wI g n_targets 0 36 f_60137), (wI g n_weights 0 36 f_60138), (wI g o_kind 0 12 o_fkind), (wI g o_pay 0 12 o_fpay), (wI g o_name 0 12 o_fname), (wI g o_ways 0 12 o_fways), (wI g o_held 0 12 o_fheld), (wI g o_targets 0 36 o_ftargets), (wI g o_weights 0 36 o_fweights)] H := hP
  have hD : va_D A [(wO2 n o_nodes n_kind n_pay n_name n_ways n_held n_targets n_weights), (wO2 o o_nodes o_kind o_pay o_name o_ways o_held o_targets o_weights), (wI g n_kind 0 12 f_60132), (wI g n_pay 0 12 f_60133), (wI g n_name 0 12 f_60134), (wI g n_ways 0 12 f_60135), (wI g n_held 0 12 f_60136), (wI g n_targets 0 36 f_60137), (wI g n_weights 0 36 f_60138), (wI g o_kind 0 12 o_fkind), (wI g o_pay 0 12 o_fpay), (wI g o_name 0 12 o_fname), (wI g o_ways 0 12 o_fways), (wI g o_held 0 12 o_fheld), (wI g o_targets 0 36 o_ftargets), (wI g o_weights 0 36 o_fweights)] := hD
  have hP9 := hP.sub (ws' := [(wO2 n o_nodes n_kind n_pay n_name n_ways n_held n_targets n_weights), (wO2 o o_nodes o_kind o_pay o_name o_ways o_held o_targets o_weights), (wI g n_kind 0 12 f_60132), (wI g n_pay 0 12 f_60133), (wI g n_name 0 12 f_60134), (wI g n_ways 0 12 f_60135), (wI g n_held 0 12 f_60136), (wI g n_targets 0 36 f_60137), (wI g n_weights 0 36 f_60138), (wI g o_kind 0 12 o_fkind), (wI g o_pay 0 12 o_fpay), (wI g o_name 0 12 o_fname), (wI g o_ways 0 12 o_fways), (wI g o_held 0 12 o_fheld), (wI g o_targets 0 36 o_ftargets), (wI g o_weights 0 36 o_fweights)]) [0, 1, 2, 3, 4, 5, 6, 7, 8, 9, 10, 11, 12, 13, 14, 15] rfl
  have hD9 := hD.sub (ws' := [(wO2 n o_nodes n_kind n_pay n_name n_ways n_held n_targets n_weights), (wO2 o o_nodes o_kind o_pay o_name o_ways o_held o_targets o_weights), (wI g n_kind 0 12 f_60132), (wI g n_pay 0 12 f_60133), (wI g n_name 0 12 f_60134), (wI g n_ways 0 12 f_60135), (wI g n_held 0 12 f_60136), (wI g n_targets 0 36 f_60137), (wI g n_weights 0 36 f_60138), (wI g o_kind 0 12 o_fkind), (wI g o_pay 0 12 o_fpay), (wI g o_name 0 12 o_fname), (wI g o_ways 0 12 o_fways), (wI g o_held 0 12 o_fheld), (wI g o_targets 0 36 o_ftargets), (wI g o_weights 0 36 o_fweights)]) [0, 1, 2, 3, 4, 5, 6, 7, 8, 9, 10, 11, 12, 13, 14, 15] (by decide) rfl
  exact W.vret hx hb hr (fun t ht hW => ⟨⟨(), rfl, trivial, f_60132, f_60133, f_60134, f_60135, f_60136, f_60137, f_60138, (tr_wa h_f_60132 (by decide) (by decide)), (tr_wa h_f_60135 (by decide) (by decide)), (tr_wa h_f_60136 (by decide) (by decide)), (tr_wa h_f_60137 (by decide) (by decide)), (absC_cpy f_60132_e f_60133_e f_60134_e f_60135_e f_60136_e f_60137_e f_60138_e), by rw [ht]; exact hP9, hD9⟩, hS.F ht⟩) hS.2.2 dX2_copyFrom_113
