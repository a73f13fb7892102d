theorem qw_476 : Cond.fieldLink RX5 9 "ChanceRings$Regions" "net" "LChanceRings$Net;" ∈ wsL_law := tseg_2 (by decide +kernel) (List.mem_of_getElem? (i := 13) (by decide +kernel))
theorem qw_477 : Cond.fieldLink RX5 15 "ChanceRings$Net" "nodes" "I" ∈ wsL_law := tseg_1 (by decide +kernel) (List.mem_of_getElem? (i := 58) (by decide +kernel))
theorem qw_478 : Cond.methodLink RX5 21 yX2_nextNodes ∈ wsL_law := tseg_4 (by decide +kernel) (List.mem_of_getElem? (i := 55) (by decide +kernel))
theorem qw_479 : Cond.instanceMethod yX2_nextNodes ∈ wsL_law := tseg_3 (by decide +kernel) (List.mem_of_getElem? (i := 110) (by decide +kernel))
theorem qw_480 : Cond.selects RX2 yX2_nextNodes yX2_nextNodes ∈ wsL_law := tseg_3 (by decide +kernel) (List.mem_of_getElem? (i := 111) (by decide +kernel))
theorem qw_481 : Cond.code yX2_nextNodes cX2_nextNodes 4 (some .int) ∈ wsL_law := tseg_3 (by decide +kernel) (List.mem_of_getElem? (i := 112) (by decide +kernel))
theorem qw_482 : Cond.fieldLink RX5 25 "ChanceRings$Net" "kind" "[I" ∈ wsL_law := tseg_1 (by decide +kernel) (List.mem_of_getElem? (i := 65) (by decide +kernel))
theorem qw_483 : Cond.fieldLink RX0 22 "ChanceRings$Course" "net" "LChanceRings$Net;" ∈ wsL_law := tseg_2 (by decide +kernel) (List.mem_of_getElem? (i := 51) (by decide +kernel))
theorem qw_490 : Cond.initialized RX0 ∈ wsL_law := tseg_1 (by decide +kernel) (List.mem_of_getElem? (i := 13) (by decide +kernel))
theorem qw_494 : Cond.fieldLink RX0 18 "ChanceRings$Course" "place" "[I" ∈ wsL_law := tseg_2 (by decide +kernel) (List.mem_of_getElem? (i := 53) (by decide +kernel))
theorem qw_496 : Cond.fieldLink RX1 16 "ChanceRings$Equations" "right" "[J" ∈ wsL_law := tseg_2 (by decide +kernel) (List.mem_of_getElem? (i := 39) (by decide +kernel))
theorem qw_497 : Cond.fieldLink RX1 11 "ChanceRings$Equations" "rows" "[[J" ∈ wsL_law := tseg_2 (by decide +kernel) (List.mem_of_getElem? (i := 37) (by decide +kernel))
theorem qw_502 : Cond.initialized RX1 ∈ wsL_law := tseg_1 (by decide +kernel) (List.mem_of_getElem? (i := 14) (by decide +kernel))
theorem dX5_forcedInto_0 : decode cX5_forcedInto 0 = .ok (.iload_n 2, 1) := by decide +kernel
theorem dX5_forcedInto_1 : decode cX5_forcedInto 1 = .ok (.istore_n 3, 1) := by decide +kernel
theorem dX5_forcedInto_2 : decode cX5_forcedInto 2 = .ok (.iconst (-1), 1) := by decide +kernel
theorem dX5_forcedInto_3 : decode cX5_forcedInto 3 = .ok (.istore 4, 2) := by decide +kernel
theorem dX5_forcedInto_5 : decode cX5_forcedInto 5 = .ok (.iconst 0, 1) := by decide +kernel
theorem dX5_forcedInto_6 : decode cX5_forcedInto 6 = .ok (.istore 5, 2) := by decide +kernel
theorem dX5_forcedInto_8 : decode cX5_forcedInto 8 = .ok (.iload 5, 2) := by decide +kernel
theorem dX5_forcedInto_10 : decode cX5_forcedInto 10 = .ok (.bipush 12, 2) := by decide +kernel
theorem dX5_forcedInto_12 : decode cX5_forcedInto 12 = .ok (.if_icmp .ge 127, 3) := by decide +kernel
theorem dX5_forcedInto_15 : decode cX5_forcedInto 15 = .ok (.iload_n 3, 1) := by decide +kernel
theorem dX5_forcedInto_16 : decode cX5_forcedInto 16 = .ok (.iload 4, 2) := by decide +kernel
theorem dX5_forcedInto_18 : decode cX5_forcedInto 18 = .ok (.if_icmp .eq 121, 3) := by decide +kernel
theorem dX5_forcedInto_21 : decode cX5_forcedInto 21 = .ok (.iload_n 3, 1) := by decide +kernel
theorem dX5_forcedInto_22 : decode cX5_forcedInto 22 = .ok (.istore 4, 2) := by decide +kernel
theorem dX5_forcedInto_24 : decode cX5_forcedInto 24 = .ok (.iconst 0, 1) := by decide +kernel
theorem dX5_forcedInto_25 : decode cX5_forcedInto 25 = .ok (.istore 6, 2) := by decide +kernel
theorem dX5_forcedInto_27 : decode cX5_forcedInto 27 = .ok (.iload 6, 2) := by decide +kernel
theorem dX5_forcedInto_29 : decode cX5_forcedInto 29 = .ok (.aload_n 0, 1) := by decide +kernel
theorem dX5_forcedInto_30 : decode cX5_forcedInto 30 = .ok (.getfield 9, 3) := by decide +kernel
theorem dX5_forcedInto_33 : decode cX5_forcedInto 33 = .ok (.getfield 15, 3) := by decide +kernel
theorem dX5_forcedInto_36 : decode cX5_forcedInto 36 = .ok (.if_icmp .ge 97, 3) := by decide +kernel
theorem dX5_forcedInto_39 : decode cX5_forcedInto 39 = .ok (.aload_n 0, 1) := by decide +kernel
theorem dX5_forcedInto_40 : decode cX5_forcedInto 40 = .ok (.getfield 9, 3) := by decide +kernel
theorem dX5_forcedInto_43 : decode cX5_forcedInto 43 = .ok (.iload 6, 2) := by decide +kernel
theorem dX5_forcedInto_45 : decode cX5_forcedInto 45 = .ok (.invokevirtual 21, 3) := by decide +kernel
theorem dX5_forcedInto_48 : decode cX5_forcedInto 48 = .ok (.istore 7, 2) := by decide +kernel
theorem dX5_forcedInto_50 : decode cX5_forcedInto 50 = .ok (.iload 7, 2) := by decide +kernel
theorem dX5_forcedInto_52 : decode cX5_forcedInto 52 = .ok (.iload_n 3, 1) := by decide +kernel
theorem dX5_forcedInto_53 : decode cX5_forcedInto 53 = .ok (.iand, 1) := by decide +kernel
theorem dX5_forcedInto_54 : decode cX5_forcedInto 54 = .ok (.ifCond .eq 7, 3) := by decide +kernel
theorem dX5_forcedInto_57 : decode cX5_forcedInto 57 = .ok (.iconst 1, 1) := by decide +kernel
theorem dX5_forcedInto_58 : decode cX5_forcedInto 58 = .ok (.goto 4, 3) := by decide +kernel
theorem dX5_forcedInto_61 : decode cX5_forcedInto 61 = .ok (.iconst 0, 1) := by decide +kernel
theorem dX5_forcedInto_62 : decode cX5_forcedInto 62 = .ok (.istore 8, 2) := by decide +kernel
theorem dX5_forcedInto_64 : decode cX5_forcedInto 64 = .ok (.iload 7, 2) := by decide +kernel
theorem dX5_forcedInto_66 : decode cX5_forcedInto 66 = .ok (.iload_n 3, 1) := by decide +kernel
theorem dX5_forcedInto_67 : decode cX5_forcedInto 67 = .ok (.iconst (-1), 1) := by decide +kernel
theorem dX5_forcedInto_68 : decode cX5_forcedInto 68 = .ok (.ixor, 1) := by decide +kernel
theorem dX5_forcedInto_69 : decode cX5_forcedInto 69 = .ok (.iand, 1) := by decide +kernel
theorem dX5_forcedInto_70 : decode cX5_forcedInto 70 = .ok (.ifCond .ne 7, 3) := by decide +kernel
theorem dX5_forcedInto_73 : decode cX5_forcedInto 73 = .ok (.iconst 1, 1) := by decide +kernel
theorem dX5_forcedInto_74 : decode cX5_forcedInto 74 = .ok (.goto 4, 3) := by decide +kernel
theorem dX5_forcedInto_77 : decode cX5_forcedInto 77 = .ok (.iconst 0, 1) := by decide +kernel
theorem dX5_forcedInto_78 : decode cX5_forcedInto 78 = .ok (.istore 9, 2) := by decide +kernel
theorem dX5_forcedInto_80 : decode cX5_forcedInto 80 = .ok (.aload_n 0, 1) := by decide +kernel
theorem dX5_forcedInto_81 : decode cX5_forcedInto 81 = .ok (.getfield 9, 3) := by decide +kernel
theorem dX5_forcedInto_84 : decode cX5_forcedInto 84 = .ok (.getfield 25, 3) := by decide +kernel
theorem dX5_forcedInto_87 : decode cX5_forcedInto 87 = .ok (.iload 6, 2) := by decide +kernel
theorem dX5_forcedInto_89 : decode cX5_forcedInto 89 = .ok (.iaload, 1) := by decide +kernel
theorem dX5_forcedInto_90 : decode cX5_forcedInto 90 = .ok (.ifCond .eq 37, 3) := by decide +kernel
theorem dX5_forcedInto_93 : decode cX5_forcedInto 93 = .ok (.aload_n 0, 1) := by decide +kernel
theorem dX5_forcedInto_94 : decode cX5_forcedInto 94 = .ok (.getfield 9, 3) := by decide +kernel
theorem dX5_forcedInto_97 : decode cX5_forcedInto 97 = .ok (.getfield 25, 3) := by decide +kernel
theorem dX5_forcedInto_100 : decode cX5_forcedInto 100 = .ok (.iload 6, 2) := by decide +kernel
theorem dX5_forcedInto_102 : decode cX5_forcedInto 102 = .ok (.iaload, 1) := by decide +kernel
theorem dX5_forcedInto_103 : decode cX5_forcedInto 103 = .ok (.iload_n 1, 1) := by decide +kernel
theorem dX5_forcedInto_104 : decode cX5_forcedInto 104 = .ok (.if_icmp .ne 11, 3) := by decide +kernel
theorem dX5_forcedInto_107 : decode cX5_forcedInto 107 = .ok (.iload 8, 2) := by decide +kernel
theorem dX5_forcedInto_109 : decode cX5_forcedInto 109 = .ok (.ifCond .eq 18, 3) := by decide +kernel
theorem dX5_forcedInto_112 : decode cX5_forcedInto 112 = .ok (.goto 8, 3) := by decide +kernel
theorem dX5_forcedInto_115 : decode cX5_forcedInto 115 = .ok (.iload 9, 2) := by decide +kernel
theorem dX5_forcedInto_117 : decode cX5_forcedInto 117 = .ok (.ifCond .eq 10, 3) := by decide +kernel
theorem dX5_forcedInto_120 : decode cX5_forcedInto 120 = .ok (.iload_n 3, 1) := by decide +kernel
theorem dX5_forcedInto_121 : decode cX5_forcedInto 121 = .ok (.iconst 1, 1) := by decide +kernel
theorem dX5_forcedInto_122 : decode cX5_forcedInto 122 = .ok (.iload 6, 2) := by decide +kernel
theorem dX5_forcedInto_124 : decode cX5_forcedInto 124 = .ok (.ishl, 1) := by decide +kernel
theorem dX5_forcedInto_125 : decode cX5_forcedInto 125 = .ok (.ior, 1) := by decide +kernel
theorem dX5_forcedInto_126 : decode cX5_forcedInto 126 = .ok (.istore_n 3, 1) := by decide +kernel
theorem dX5_forcedInto_127 : decode cX5_forcedInto 127 = .ok (.iinc 6 1, 3) := by decide +kernel
theorem dX5_forcedInto_130 : decode cX5_forcedInto 130 = .ok (.goto (-103), 3) := by decide +kernel
theorem dX5_forcedInto_133 : decode cX5_forcedInto 133 = .ok (.iinc 5 1, 3) := by decide +kernel
theorem dX5_forcedInto_136 : decode cX5_forcedInto 136 = .ok (.goto (-128), 3) := by decide +kernel
theorem dX5_forcedInto_139 : decode cX5_forcedInto 139 = .ok (.iload_n 3, 1) := by decide +kernel
theorem dX5_forcedInto_140 : decode cX5_forcedInto 140 = .ok (.ireturn, 1) := by decide +kernel
set_option maxHeartbeats 4000000 in
set_option maxRecDepth 100000 in
theorem c_X5_forcedIntoN (l : Launch) (D : va_G) (g : Nat → ClassId) (rg : Nat) (p0 : Int32) (p1 : Int32) (n : Nat) (n_nodes : Int32) (n_kind : Nat) (n_pay : Nat) (n_name : Nat) (n_ways : Nat) (n_held : Nat) (n_targets : Nat) (n_weights : Nat) (n_fkind : Nat → Int32) (n_fpay : Nat → Int32) (n_fways : Nat → Int32) (n_fheld : Nat → Int32) (n_ftargets : Nat → Int32) (h_p1 : 0 ≤ (p1 : Int32).toInt ∧ (p1 : Int32).toInt ≤ 2147483647) (h_n_nodes : 0 ≤ (n_nodes : Int32).toInt ∧ (n_nodes : Int32).toInt ≤ 12) (h_n_fkind : ∀ j : Nat, 0 ≤ (n_fkind j).toInt ∧ (n_fkind j).toInt ≤ 3) (h_n_fways : ∀ j : Nat, 0 ≤ (n_fways j).toInt ∧ (n_fways j).toInt ≤ 3) (h_n_fheld : ∀ j : Nat, (-1) ≤ (n_fheld j).toInt ∧ (n_fheld j).toInt ≤ 2) (h_n_ftargets : ∀ j : Nat, 0 ≤ (n_ftargets j).toInt ∧ (n_ftargets j).toInt ≤ 11) : Met l yX5_forcedInto (.code yX5_forcedInto cX5_forcedInto 10 (some .int) :: wsL_law) ({ frames := 2, cells := 0, slots := 0, locals := 45 }) (va_Pc [.ref rg, .int p0, .int p1] (fun U => va_P D vwCl [(rg, .inr (5, [.ref n])), (n, .inr (2, [.int n_nodes, .ref n_kind, .ref n_pay, .ref n_name, .ref n_ways, .ref n_held, .ref n_targets, .ref n_weights])), (n_kind, .inl (g 0, 12, .inl n_fkind)), (n_pay, .inl (g 0, 12, .inl n_fpay)), (n_ways, .inl (g 0, 12, .inl n_fways)), (n_held, .inl (g 0, 12, .inl n_fheld)), (n_targets, .inl (g 0, 36, .inl n_ftargets))] U.heap ∧ va_K D vwCl (TY g) U)) (vp_Si (fun r => (True) ∧ (∃ j : Nat, (r : Int32) = itF (p0 : Int32).toInt (fun p => (n_fkind p).toInt) (fun p => ahF (n_fheld p).toInt (fun i => n_ftargets (3 * p + i)) (n_fways p).toInt.toNat) (n_nodes : Int32).toInt.toNat p1 j ∧ (j = 12 ∨ (1 ≤ j ∧ itF (p0 : Int32).toInt (fun p => (n_fkind p).toInt) (fun p => ahF (n_fheld p).toInt (fun i => n_ftargets (3 * p + i)) (n_fways p).toInt.toNat) (n_nodes : Int32).toInt.toNat p1 j = itF (p0 : Int32).toInt (fun p => (n_fkind p).toInt) (fun p => ahF (n_fheld p).toInt (fun i => n_ftargets (3 * p + i)) (n_fways p).toInt.toNat) (n_nodes : Int32).toInt.toNat p1 (j - 1)))))) 0 0 (fun _ => False) := by
  refine Met.ofW (cc := cX5_forcedInto) (maxL := 10) (ret := (some .int)) (by decide) rfl ?_
  intro p e s m args below meth c s₁ B hml hv
  obtain ⟨ha, hP, hK⟩ := hv
  have hx := B.exec
  have hb := B.bytes
  have hr := B.returns
  have hts0 := atoms_spec (ws := (.code yX5_forcedInto cX5_forcedInto 10 (some .int) :: wsL_law)) B.pre
  have hts : ∀ w ∈ wsL_law, w.before args s = true := fun w h => hts0 w (List.mem_cons_of_mem _ h)
  have hown : s.vm.findClass RX5 = some m.cls := findClass_of_methodNamed B.named
  have hlocks := B.notSynchronized
  have hP : va_P D vwCl [(rg, .inr (5, [.ref n])), (n, .inr (2, [.int n_nodes, .ref n_kind, .ref n_pay, .ref n_name, .ref n_ways, .ref n_held, .ref n_targets, .ref n_weights])), (n_kind, .inl (g 0, 12, .inl n_fkind)), (n_pay, .inl (g 0, 12, .inl n_fpay)), (n_ways, .inl (g 0, 12, .inl n_fways)), (n_held, .inl (g 0, 12, .inl n_fheld)), (n_targets, .inl (g 0, 36, .inl n_ftargets))] s.heap := hP
  refine W.eq (g2 := entryFrame m ([.ref rg, .int p0, .int p1] : List Value).toArray 10) (by rw [ha]) ?_
  have hl := lv_entry ([.ref rg, .int p0, .int p1]) (n := 10) (Nat.le_of_ble_eq_true rfl)
  rw [lg_entry_eq]
  generalize (lg_sl ([.ref rg, .int p0, .int p1]) ++ List.replicate (10 - (lg_sl ([.ref rg, .int p0, .int p1])).length) Slot.unset).toArray = ls at hl ⊢
  have hl : lv_has ls 10 [(0, .ref rg), (1, .int p0), (2, .int p1)] := hl
  refine lv_iload_n hx hb dX5_forcedInto_0 rfl (lv_at hl 2 rfl) ?_
  refine lv_istore_n (lv' := [(3, .int p1), (0, .ref rg), (1, .int p0), (2, .int p1)]) hx hb dX5_forcedInto_1 rfl hl (by decide) rfl (fun ls hl => ?_)
  refine lv_iconst (v := (-1)) hx hb dX5_forcedInto_2 (by decide) ?_
  refine lv_istore (lv' := [(4, .int (-1)), (3, .int p1), (0, .ref rg), (1, .int p0), (2, .int p1)]) hx hb dX5_forcedInto_3 hl (by decide) rfl (fun ls hl => ?_)
  refine lv_iconst (v := 0) hx hb dX5_forcedInto_5 (by decide) ?_
  refine lv_istore (lv' := [(5, .int 0), (4, .int (-1)), (3, .int p1), (0, .ref rg), (1, .int p0), (2, .int p1)]) hx hb dX5_forcedInto_6 hl (by decide) rfl (fun ls hl => ?_)
  have lp_73646 : ∀ (n_73646 : Nat) (x_73643 : Int32) (x_73644 : Int32) (x_73645 : Int32) (ls : Array Slot), (0 ≤ (x_73643 : Int32).toInt ∧ (x_73643 : Int32).toInt ≤ 12) → ((x_73645 : Int32) = itF (p0 : Int32).toInt (fun p => (n_fkind p).toInt) (fun p => ahF (n_fheld p).toInt (fun i => n_ftargets (3 * p + i)) (n_fways p).toInt.toNat) (n_nodes : Int32).toInt.toNat p1 x_73643.toInt.toNat ∧ (1 ≤ x_73643.toInt.toNat → (x_73644 : Int32) = itF (p0 : Int32).toInt (fun p => (n_fkind p).toInt) (fun p => ahF (n_fheld p).toInt (fun i => n_ftargets (3 * p + i)) (n_fways p).toInt.toNat) (n_nodes : Int32).toInt.toNat p1 (x_73643.toInt.toNat - 1)) ∧ (x_73643.toInt.toNat = 0 → (x_73644 : Int32).toInt = -1)) → (12 - x_73643.toInt < (n_73646 : Int)) → lv_has ls 10 [(5, .int x_73643), (4, .int x_73644), (3, .int x_73645), (0, .ref rg), (1, .int p0), (2, .int p1)] → W p l e (headSpec (.code yX5_forcedInto cX5_forcedInto 10 (some .int) :: wsL_law) ({ frames := 2, cells := 0, slots := 0, locals := 45 })).room s m args below meth c s.heap [] 0 0 (MQ below (vp_Si (fun r => (True) ∧ (∃ j : Nat, (r : Int32) = itF (p0 : Int32).toInt (fun p => (n_fkind p).toInt) (fun p => ahF (n_fheld p).toInt (fun i => n_ftargets (3 * p + i)) (n_fways p).toInt.toNat) (n_nodes : Int32).toInt.toNat p1 j ∧ (j = 12 ∨ (1 ≤ j ∧ itF (p0 : Int32).toInt (fun p => (n_fkind p).toInt) (fun p => ahF (n_fheld p).toInt (fun i => n_ftargets (3 * p + i)) (n_fways p).toInt.toNat) (n_nodes : Int32).toInt.toNat p1 j = itF (p0 : Int32).toInt (fun p => (n_fkind p).toInt) (fun p => ahF (n_fheld p).toInt (fun i => n_ftargets (3 * p + i)) (n_fways p).toInt.toNat) (n_nodes : Int32).toInt.toNat p1 (j - 1)))))) args s 0 0 (fun _ => False)) (F0 m 8 ls []) := by
    intro n_73646
    induction n_73646 with
    | zero =>
      intro x_73643 x_73644 x_73645 ls h_x_73643 hr73646_0 hm_73646 hl
      exfalso; omega
    | succ n_73646 ih_73646 =>
      intro x_73643 x_73644 x_73645 ls h_x_73643 hr73646_0 hm_73646 hl
      refine lv_iload hx hb dX5_forcedInto_8 (lv_at hl 0 rfl) ?_
      refine lv_bipush (v := 12) hx hb dX5_forcedInto_10 (by decide) ?_
      refine lv_icmp_ge (tgt := 139) hx hb dX5_forcedInto_12 (by decide) (fun c_73647 => ?_) (fun c_73647 => ?_)
      · skip
        have kk_12 := tk_12
        have c_73647_i := Int32.le_iff_toInt_le.mp c_73647
        have h_73648 : 12 ≤ (x_73643 : Int32).toInt ∧ (x_73643 : Int32).toInt ≤ 12 := nr_le_r (⟨by decide, by decide⟩ : 12 ≤ (12 : Int32).toInt ∧ (12 : Int32).toInt ≤ 12) h_x_73643 c_73647_i (by decide) (by decide)
        refine lv_iload_n hx hb dX5_forcedInto_139 rfl (lv_at hl 2 rfl) ?_
        exact W.iret (v := x_73645) hx hb hr (fun t ht hW => ⟨x_73645, rfl, ⟨trivial, (fo_exit12 hr73646_0.1 (by have z_12 := tk_12; (first | (clear h_p1 h_n_nodes h_x_73643 c_73647_i h_73648; omega) | omega)))⟩, ht⟩) (fun _ h => nomatch h) dX5_forcedInto_140
      · skip
        have kk_12 := tk_12
        have c_73647_i := Int32.lt_iff_toInt_lt.mp (Int32.not_le.mp c_73647)
        have h_73649 : 0 ≤ (x_73643 : Int32).toInt ∧ (x_73643 : Int32).toInt ≤ 11 := nr_lt_l h_x_73643 (⟨by decide, by decide⟩ : 12 ≤ (12 : Int32).toInt ∧ (12 : Int32).toInt ≤ 12) c_73647_i (by decide) (by decide)
        refine lv_iload_n hx hb dX5_forcedInto_15 rfl (lv_at hl 2 rfl) ?_
        refine lv_iload hx hb dX5_forcedInto_16 (lv_at hl 1 rfl) ?_
        refine lv_icmp_eq (tgt := 139) hx hb dX5_forcedInto_18 (by decide) (fun c_73650 => ?_) (fun c_73650 => ?_)
        · skip
          have c_73650_i : (x_73645 : Int32).toInt = (x_73644 : Int32).toInt := congrArg Int32.toInt c_73650
          refine lv_iload_n hx hb dX5_forcedInto_139 rfl (lv_at hl 2 rfl) ?_
          exact W.iret (v := x_73645) hx hb hr (fun t ht hW => ⟨x_73645, rfl, ⟨trivial, (fo_exit hr73646_0.1 hr73646_0.2.1 hr73646_0.2.2 (by (first | (clear h_p1 h_n_nodes h_x_73643 c_73647_i h_73649; omega) | omega)) c_73650)⟩, ht⟩) (fun _ h => nomatch h) dX5_forcedInto_140
        · skip
          have c_73650_i : ¬ (x_73645 : Int32).toInt = (x_73644 : Int32).toInt := (fun q => c_73650 (Int32.toInt_inj.mp q))
          refine lv_iload_n hx hb dX5_forcedInto_21 rfl (lv_at hl 2 rfl) ?_
          refine lv_istore (lv' := [(4, .int x_73645), (5, .int x_73643), (3, .int x_73645), (0, .ref rg), (1, .int p0), (2, .int p1)]) hx hb dX5_forcedInto_22 hl (by decide) rfl (fun ls hl => ?_)
          refine lv_iconst (v := 0) hx hb dX5_forcedInto_24 (by decide) ?_
          refine lv_istore (lv' := [(6, .int 0), (4, .int x_73645), (5, .int x_73643), (3, .int x_73645), (0, .ref rg), (1, .int p0), (2, .int p1)]) hx hb dX5_forcedInto_25 hl (by decide) rfl (fun ls hl => ?_)
          have lp_73770 : ∀ (n_73770 : Nat) (x_73768 : Int32) (x_73769 : Int32) (ls : Array Slot), (0 ≤ (x_73768 : Int32).toInt ∧ (x_73768 : Int32).toInt ≤ 12) → ((x_73769 : Int32) = swF (p0 : Int32).toInt (fun p => (n_fkind p).toInt) (fun p => ahF (n_fheld p).toInt (fun i => n_ftargets (3 * p + i)) (n_fways p).toInt.toNat) x_73645 x_73768.toInt.toNat ∧ (x_73645 : Int32) = itF (p0 : Int32).toInt (fun p => (n_fkind p).toInt) (fun p => ahF (n_fheld p).toInt (fun i => n_ftargets (3 * p + i)) (n_fways p).toInt.toNat) (n_nodes : Int32).toInt.toNat p1 x_73643.toInt.toNat ∧ x_73768.toInt ≤ (n_nodes : Int32).toInt) → (12 - x_73768.toInt < (n_73770 : Int)) → lv_has ls 10 [(6, .int x_73768), (4, .int x_73645), (5, .int x_73643), (3, .int x_73769), (0, .ref rg), (1, .int p0), (2, .int p1)] → W p l e (headSpec (.code yX5_forcedInto cX5_forcedInto 10 (some .int) :: wsL_law) ({ frames := 2, cells := 0, slots := 0, locals := 45 })).room s m args below meth c s.heap [] 0 0 (MQ below (vp_Si (fun r => (True) ∧ (∃ j : Nat, (r : Int32) = itF (p0 : Int32).toInt (fun p => (n_fkind p).toInt) (fun p => ahF (n_fheld p).toInt (fun i => n_ftargets (3 * p + i)) (n_fways p).toInt.toNat) (n_nodes : Int32).toInt.toNat p1 j ∧ (j = 12 ∨ (1 ≤ j ∧ itF (p0 : Int32).toInt (fun p => (n_fkind p).toInt) (fun p => ahF (n_fheld p).toInt (fun i => n_ftargets (3 * p + i)) (n_fways p).toInt.toNat) (n_nodes : Int32).toInt.toNat p1 j = itF (p0 : Int32).toInt (fun p => (n_fkind p).toInt) (fun p => ahF (n_fheld p).toInt (fun i => n_ftargets (3 * p + i)) (n_fways p).toInt.toNat) (n_nodes : Int32).toInt.toNat p1 (j - 1)))))) args s 0 0 (fun _ => False)) (F0 m 27 ls []) := by
            intro n_73770
            induction n_73770 with
            | zero =>
              intro x_73768 x_73769 ls h_x_73768 hr73770_0 hm_73770 hl
              exfalso; omega
            | succ n_73770 ih_73770 =>
              intro x_73768 x_73769 ls h_x_73768 hr73770_0 hm_73770 hl
              refine lv_iload hx hb dX5_forcedInto_27 (lv_at hl 0 rfl) ?_
              refine lv_aload_n hx hb dX5_forcedInto_29 rfl (lv_at hl 4 rfl) ?_
              refine va_get (D := D) (ci := 5) (v := .ref n) (C := RX5) (T := TX5) (N := 1) hx hb hts inlX5 hown hK hP 0 rfl rfl 0 (by decide) (hts (Cond.fieldLink RX5 9 "ChanceRings$Regions" "net" "LChanceRings$Net;") qw_476) (fun _ h9 => h9) rfl dX5_forcedInto_30 ?_
              refine va_get (D := D) (ci := 2) (v := .int n_nodes) (C := RX2) (T := TX2) (N := 8) hx hb hts inlX2 hown hK hP 1 rfl rfl 0 (by decide) (hts (Cond.fieldLink RX5 15 "ChanceRings$Net" "nodes" "I") qw_477) (fun _ h9 => h9) rfl dX5_forcedInto_33 ?_
              refine lv_icmp_ge (tgt := 133) hx hb dX5_forcedInto_36 (by decide) (fun c_73771 => ?_) (fun c_73771 => ?_)
              · skip
                have c_73771_i := Int32.le_iff_toInt_le.mp c_73771
                obtain ⟨v_73774, v_73774_e⟩ : ∃ y : Int32, y = x_73643 + Int32.ofInt 1 := ⟨_, rfl⟩
                have h_v_73774 : 1 ≤ (v_73774 : Int32).toInt ∧ (v_73774 : Int32).toInt ≤ 12 := by rw [v_73774_e]; exact tr_add h_73649 (⟨by decide, by decide⟩ : 1 ≤ (Int32.ofInt 1 : Int32).toInt ∧ (Int32.ofInt 1 : Int32).toInt ≤ 1) (by decide) (by decide) (by decide) (by decide)
                have q_v_73774 : v_73774.toInt = x_73643.toInt + 1 := by rw [v_73774_e]; exact tr_addE h_73649 (⟨by decide, by decide⟩ : 1 ≤ (Int32.ofInt 1 : Int32).toInt ∧ (Int32.ofInt 1 : Int32).toInt ≤ 1) (by decide) (by decide)
                refine lv_iinc (v := v_73774) (lv' := [(5, .int v_73774), (6, .int x_73768), (4, .int x_73645), (3, .int x_73769), (0, .ref rg), (1, .int p0), (2, .int p1)]) hx hb dX5_forcedInto_133 hl (k := 2) rfl v_73774_e.symm (by decide) rfl (fun ls hl => ?_)
                refine lv_goto (tgt := 8) hx hb dX5_forcedInto_136 (by decide) ?_
                exact ih_73646 v_73774 x_73645 x_73769 ls (tr_w h_v_73774 (by decide) (by decide)) ⟨it_next hr73770_0.1 hr73770_0.2.1 (by (first | (clear h_p1 h_n_nodes h_x_73768 c_73771_i; omega) | omega)) (by (first | (clear h_p1 h_n_nodes h_x_73768 c_73771_i; omega) | omega)), fun _ => it_prev hr73770_0.2.1 (by (first | (clear h_p1 h_n_nodes h_x_73768 c_73771_i; omega) | omega)), fun h9 => absurd h9 (by (first | (clear h_p1 h_n_nodes h_x_73768 c_73771_i; omega) | omega))⟩ (by (first | (clear h_p1 h_n_nodes h_x_73768 c_73771_i; omega) | omega)) (lv_sub hl [0, 2, 3, 4, 5, 6] rfl)
              · skip
                have c_73771_i := Int32.lt_iff_toInt_lt.mp (Int32.not_le.mp c_73771)
                have h_73772 : 0 ≤ (x_73768 : Int32).toInt ∧ (x_73768 : Int32).toInt ≤ 11 := nr_lt_l h_x_73768 h_n_nodes c_73771_i (by decide) (by decide)
                have h_73773 : 1 ≤ (n_nodes : Int32).toInt ∧ (n_nodes : Int32).toInt ≤ 12 := nr_lt_r h_x_73768 h_n_nodes c_73771_i (by decide) (by decide)
                refine lv_aload_n hx hb dX5_forcedInto_39 rfl (lv_at hl 4 rfl) ?_
                refine va_get (D := D) (ci := 5) (v := .ref n) (C := RX5) (T := TX5) (N := 1) hx hb hts inlX5 hown hK hP 0 rfl rfl 0 (by decide) (hts (Cond.fieldLink RX5 9 "ChanceRings$Regions" "net" "LChanceRings$Net;") qw_476) (fun _ h9 => h9) rfl dX5_forcedInto_40 ?_
                refine lv_iload hx hb dX5_forcedInto_43 (lv_at hl 0 rfl) ?_
                have hPc := hP.sub (ws' := [(n, .inr (2, [.int n_nodes, .ref n_kind, .ref n_pay, .ref n_name, .ref n_ways, .ref n_held, .ref n_targets, .ref n_weights])), (n_ways, .inl (g 0, 12, .inl n_fways)), (n_held, .inl (g 0, 12, .inl n_fheld)), (n_targets, .inl (g 0, 36, .inl n_ftargets))]) [1, 4, 5, 6] rfl
                refine vp_callSi (va_Run.run (va_runV (As := [.int x_73768]) (rest := []) ⟨hx, hb, hml, hown, hts⟩ (c_X2_nextNodesN l D g n x_73768 n_nodes n_kind n_pay n_name n_ways n_held n_targets n_weights n_fways n_fheld n_ftargets (tr_w h_73772 (by decide) (by decide)) (tr_w h_73773 (by decide) (by decide)) (tr_wa h_n_fways (by decide) (by decide)) (tr_wa h_n_fheld (by decide) (by decide)) (tr_wa h_n_ftargets (by decide) (by decide))) (cwV 1 hts (tz_gV qw_478 qw_479 qw_480 qw_322 qw_481) rfl rfl rfl (by decide +kernel) ⟨Nat.le_of_ble_eq_true rfl, Nat.le_of_ble_eq_true rfl⟩) ⟨tz_blS, va_recv hK hPc (ci := 2) (q0 := 0) rfl rfl, tz_preS hPc hK⟩ rfl rfl hl.1 rfl (lv_room (Nat.le_of_ble_eq_true rfl)) dX5_forcedInto_45 ⟨Nat.le_of_ble_eq_true rfl, Nat.le_of_ble_eq_true rfl⟩)) (fun r_73775 hw => ?_)
                have hw_73776 : 0 ≤ (r_73775 : Int32).toInt ∧ (r_73775 : Int32).toInt ≤ 4095 := hw.1
                have hw_73776_p0 : (r_73775 : Int32) = ahF (n_fheld (x_73768 : Int32).toInt.toNat).toInt (fun i => n_ftargets (3 * (x_73768 : Int32).toInt.toNat + i)) (n_fways (x_73768 : Int32).toInt.toNat).toInt.toNat := hw.2
                refine lv_istore (lv' := [(7, .int r_73775), (6, .int x_73768), (4, .int x_73645), (5, .int x_73643), (3, .int x_73769), (0, .ref rg), (1, .int p0), (2, .int p1)]) hx hb dX5_forcedInto_48 hl (by decide) rfl (fun ls hl => ?_)
                refine lv_iload hx hb dX5_forcedInto_50 (lv_at hl 0 rfl) ?_
                refine lv_iload_n hx hb dX5_forcedInto_52 rfl (lv_at hl 4 rfl) ?_
                refine lv_iand hx hb dX5_forcedInto_53 ?_
                refine lv_topi (fun v_73777 v_73777_e => ?_)
                refine lv_if_eq (tgt := 61) hx hb dX5_forcedInto_54 (by decide) (fun c_73778 => ?_) (fun c_73778 => ?_)
                · skip
                  have kk_0 := tk_0
                  have c_73778_i : (v_73777 : Int32).toInt = (0 : Int32).toInt := congrArg Int32.toInt c_73778
                  have h_73779 : 0 ≤ (v_73777 : Int32).toInt ∧ (v_73777 : Int32).toInt ≤ 0 := by rw [c_73778]; exact ⟨by decide, by decide⟩
                  refine lv_iconst (v := 0) hx hb dX5_forcedInto_61 (by decide) ?_
                  refine lv_istore (lv' := [(8, .int 0), (7, .int r_73775), (6, .int x_73768), (4, .int x_73645), (5, .int x_73643), (3, .int x_73769), (0, .ref rg), (1, .int p0), (2, .int p1)]) hx hb dX5_forcedInto_62 hl (by decide) rfl (fun ls hl => ?_)
                  refine lv_iload hx hb dX5_forcedInto_64 (lv_at hl 1 rfl) ?_
                  refine lv_iload_n hx hb dX5_forcedInto_66 rfl (lv_at hl 5 rfl) ?_
                  refine lv_iconst (v := (-1)) hx hb dX5_forcedInto_67 (by decide) ?_
                  refine lv_ixor hx hb dX5_forcedInto_68 ?_
                  refine lv_topi (fun v_73780 v_73780_e => ?_)
                  refine lv_iand hx hb dX5_forcedInto_69 ?_
                  refine lv_topi (fun v_73781 v_73781_e => ?_)
                  refine lv_if_ne (tgt := 77) hx hb dX5_forcedInto_70 (by decide) (fun c_73782 => ?_) (fun c_73782 => ?_)
                  · skip
                    have c_73782_i : ¬ (v_73781 : Int32).toInt = (0 : Int32).toInt := (fun q => c_73782 (Int32.toInt_inj.mp q))
                    refine lv_iconst (v := 0) hx hb dX5_forcedInto_77 (by decide) ?_
                    refine lv_istore (lv' := [(9, .int 0), (8, .int 0), (7, .int r_73775), (6, .int x_73768), (4, .int x_73645), (5, .int x_73643), (3, .int x_73769), (0, .ref rg), (1, .int p0), (2, .int p1)]) hx hb dX5_forcedInto_78 hl (by decide) rfl (fun ls hl => ?_)
                    refine lv_aload_n hx hb dX5_forcedInto_80 rfl (lv_at hl 7 rfl) ?_
                    refine va_get (D := D) (ci := 5) (v := .ref n) (C := RX5) (T := TX5) (N := 1) hx hb hts inlX5 hown hK hP 0 rfl rfl 0 (by decide) (hts (Cond.fieldLink RX5 9 "ChanceRings$Regions" "net" "LChanceRings$Net;") qw_476) (fun _ h9 => h9) rfl dX5_forcedInto_81 ?_
                    refine va_get (D := D) (ci := 2) (v := .ref n_kind) (C := RX2) (T := TX2) (N := 8) hx hb hts inlX2 hown hK hP 1 rfl rfl 1 (by decide) (hts (Cond.fieldLink RX5 25 "ChanceRings$Net" "kind" "[I") qw_482) (fun _ h9 => h9) rfl dX5_forcedInto_84 ?_
                    refine lv_iload hx hb dX5_forcedInto_87 (lv_at hl 3 rfl) ?_
                    refine va_iald hx hb hK hP 2 0 rfl rfl (tr_in h_73772 (by decide) (by decide)) dX5_forcedInto_89 ?_
                    refine lv_topi (fun v_73784 v_73784_e => ?_)
                    have h_v_73784 : 0 ≤ (v_73784 : Int32).toInt ∧ (v_73784 : Int32).toInt ≤ 3 := by rw [v_73784_e]; exact h_n_fkind _
                    have g_v_73784 : v_73784 = n_fkind (x_73768.toInt.toNat) := v_73784_e.trans (congrArg n_fkind rfl)
                    have gi_v_73784 := congrArg Int32.toInt g_v_73784
                    refine lv_if_eq (tgt := 127) hx hb dX5_forcedInto_90 (by decide) (fun c_73785 => ?_) (fun c_73785 => ?_)
                    · skip
                      have c_73785_i : (v_73784 : Int32).toInt = (0 : Int32).toInt := congrArg Int32.toInt c_73785
                      have h_73786 : 0 ≤ (v_73784 : Int32).toInt ∧ (v_73784 : Int32).toInt ≤ 0 := nr_eq_l h_v_73784 (⟨by decide, by decide⟩ : 0 ≤ (0 : Int32).toInt ∧ (0 : Int32).toInt ≤ 0) c_73785_i (by decide) (by decide)
                      obtain ⟨v_73788, v_73788_e⟩ : ∃ y : Int32, y = x_73768 + Int32.ofInt 1 := ⟨_, rfl⟩
                      have h_v_73788 : 1 ≤ (v_73788 : Int32).toInt ∧ (v_73788 : Int32).toInt ≤ 12 := by rw [v_73788_e]; exact tr_add h_73772 (⟨by decide, by decide⟩ : 1 ≤ (Int32.ofInt 1 : Int32).toInt ∧ (Int32.ofInt 1 : Int32).toInt ≤ 1) (by decide) (by decide) (by decide) (by decide)
                      have q_v_73788 : v_73788.toInt = x_73768.toInt + 1 := by rw [v_73788_e]; exact tr_addE h_73772 (⟨by decide, by decide⟩ : 1 ≤ (Int32.ofInt 1 : Int32).toInt ∧ (Int32.ofInt 1 : Int32).toInt ≤ 1) (by decide) (by decide)
                      refine lv_iinc (v := v_73788) (lv' := [(6, .int v_73788), (9, .int 0), (8, .int 0), (7, .int r_73775), (4, .int x_73645), (5, .int x_73643), (3, .int x_73769), (0, .ref rg), (1, .int p0), (2, .int p1)]) hx hb dX5_forcedInto_127 hl (k := 3) rfl v_73788_e.symm (by decide) rfl (fun ls hl => ?_)
                      refine lv_goto (tgt := 27) hx hb dX5_forcedInto_130 (by decide) ?_
                      exact ih_73770 v_73788 x_73769 ls (tr_w h_v_73788 (by decide) (by decide)) ⟨swF_0 hr73770_0.1 (by (first | (clear h_p1 h_x_73643 c_73647_i h_73649 c_73650_i c_73778_i h_73779 c_73782_i; omega) | omega)) gi_v_73784 (by have z_0 := tk_0; (first | (clear h_p1 h_x_73643 c_73647_i h_73649 c_73650_i c_73778_i h_73779 c_73782_i; omega) | omega)) rfl, hr73770_0.2.1, by (first | (clear h_p1 h_x_73643 c_73647_i h_73649 c_73650_i c_73778_i h_73779 c_73782_i; omega) | omega)⟩ (by (first | (clear h_p1 h_x_73643 c_73647_i h_73649 c_73650_i c_73778_i h_73779 c_73782_i; omega) | omega)) (lv_sub hl [0, 4, 5, 6, 7, 8, 9] rfl)
                    · skip
                      have c_73785_i : ¬ (v_73784 : Int32).toInt = (0 : Int32).toInt := (fun q => c_73785 (Int32.toInt_inj.mp q))
                      have h_73787 : 1 ≤ (v_73784 : Int32).toInt ∧ (v_73784 : Int32).toInt ≤ 3 := nr_ne_l h_v_73784 (⟨by decide, by decide⟩ : 0 ≤ (0 : Int32).toInt ∧ (0 : Int32).toInt ≤ 0) c_73785_i (by decide) (by decide)
                      refine lv_aload_n hx hb dX5_forcedInto_93 rfl (lv_at hl 7 rfl) ?_
                      refine va_get (D := D) (ci := 5) (v := .ref n) (C := RX5) (T := TX5) (N := 1) hx hb hts inlX5 hown hK hP 0 rfl rfl 0 (by decide) (hts (Cond.fieldLink RX5 9 "ChanceRings$Regions" "net" "LChanceRings$Net;") qw_476) (fun _ h9 => h9) rfl dX5_forcedInto_94 ?_
                      refine va_get (D := D) (ci := 2) (v := .ref n_kind) (C := RX2) (T := TX2) (N := 8) hx hb hts inlX2 hown hK hP 1 rfl rfl 1 (by decide) (hts (Cond.fieldLink RX5 25 "ChanceRings$Net" "kind" "[I") qw_482) (fun _ h9 => h9) rfl dX5_forcedInto_97 ?_
                      refine lv_iload hx hb dX5_forcedInto_100 (lv_at hl 3 rfl) ?_
                      refine va_iald hx hb hK hP 2 0 rfl rfl (tr_in h_73772 (by decide) (by decide)) dX5_forcedInto_102 ?_
                      refine tz_i (y := v_73784) ((congrArg n_fkind rfl).trans g_v_73784.symm) ?_
                      refine lv_iload_n hx hb dX5_forcedInto_103 rfl (lv_at hl 8 rfl) ?_
                      refine lv_icmp_ne (tgt := 115) hx hb dX5_forcedInto_104 (by decide) (fun c_73789 => ?_) (fun c_73789 => ?_)
                      · skip
                        have c_73789_i : ¬ (v_73784 : Int32).toInt = (p0 : Int32).toInt := (fun q => c_73789 (Int32.toInt_inj.mp q))
                        refine lv_iload hx hb dX5_forcedInto_115 (lv_at hl 0 rfl) ?_
                        refine lv_if_eq (tgt := 127) hx hb dX5_forcedInto_117 (by decide) (fun _ => ?_) (fun h9 => (h9 (by decide)).elim)
                        obtain ⟨v_73790, v_73790_e⟩ : ∃ y : Int32, y = x_73768 + Int32.ofInt 1 := ⟨_, rfl⟩
                        have h_v_73790 : 1 ≤ (v_73790 : Int32).toInt ∧ (v_73790 : Int32).toInt ≤ 12 := by rw [v_73790_e]; exact tr_add h_73772 (⟨by decide, by decide⟩ : 1 ≤ (Int32.ofInt 1 : Int32).toInt ∧ (Int32.ofInt 1 : Int32).toInt ≤ 1) (by decide) (by decide) (by decide) (by decide)
                        have q_v_73790 : v_73790.toInt = x_73768.toInt + 1 := by rw [v_73790_e]; exact tr_addE h_73772 (⟨by decide, by decide⟩ : 1 ≤ (Int32.ofInt 1 : Int32).toInt ∧ (Int32.ofInt 1 : Int32).toInt ≤ 1) (by decide) (by decide)
                        refine lv_iinc (v := v_73790) (lv' := [(6, .int v_73790), (9, .int 0), (8, .int 0), (7, .int r_73775), (4, .int x_73645), (5, .int x_73643), (3, .int x_73769), (0, .ref rg), (1, .int p0), (2, .int p1)]) hx hb dX5_forcedInto_127 hl (k := 3) rfl v_73790_e.symm (by decide) rfl (fun ls hl => ?_)
                        refine lv_goto (tgt := 27) hx hb dX5_forcedInto_130 (by decide) ?_
                        exact ih_73770 v_73790 x_73769 ls (tr_w h_v_73790 (by decide) (by decide)) ⟨swF_N hr73770_0.1 (by (first | (clear h_p1 h_x_73643 c_73647_i h_73649 c_73650_i c_73778_i h_73779 c_73782_i; omega) | omega)) hw_73776_p0 gi_v_73784 (fun q => q.2.elim (fun z => absurd z.1 (by (first | (clear h_p1 h_x_73643 c_73647_i h_73649 c_73650_i c_73778_i h_73779 c_73782_i; omega) | omega))) (fun z => c_73782 (by rw [v_73781_e, v_73780_e]; exact z.2))) rfl, hr73770_0.2.1, by (first | (clear h_p1 h_x_73643 c_73647_i h_73649 c_73650_i c_73778_i h_73779 c_73782_i; omega) | omega)⟩ (by (first | (clear h_p1 h_x_73643 c_73647_i h_73649 c_73650_i c_73778_i h_73779 c_73782_i; omega) | omega)) (lv_sub hl [0, 4, 5, 6, 7, 8, 9] rfl)
                      · skip
                        have c_73789_i : (v_73784 : Int32).toInt = (p0 : Int32).toInt := congrArg Int32.toInt c_73789
                        refine lv_iload hx hb dX5_forcedInto_107 (lv_at hl 1 rfl) ?_
                        refine lv_if_eq (tgt := 127) hx hb dX5_forcedInto_109 (by decide) (fun _ => ?_) (fun h9 => (h9 (by decide)).elim)
                        obtain ⟨v_73791, v_73791_e⟩ : ∃ y : Int32, y = x_73768 + Int32.ofInt 1 := ⟨_, rfl⟩
                        have h_v_73791 : 1 ≤ (v_73791 : Int32).toInt ∧ (v_73791 : Int32).toInt ≤ 12 := by rw [v_73791_e]; exact tr_add h_73772 (⟨by decide, by decide⟩ : 1 ≤ (Int32.ofInt 1 : Int32).toInt ∧ (Int32.ofInt 1 : Int32).toInt ≤ 1) (by decide) (by decide) (by decide) (by decide)
                        have q_v_73791 : v_73791.toInt = x_73768.toInt + 1 := by rw [v_73791_e]; exact tr_addE h_73772 (⟨by decide, by decide⟩ : 1 ≤ (Int32.ofInt 1 : Int32).toInt ∧ (Int32.ofInt 1 : Int32).toInt ≤ 1) (by decide) (by decide)
                        refine lv_iinc (v := v_73791) (lv' := [(6, .int v_73791), (9, .int 0), (8, .int 0), (7, .int r_73775), (4, .int x_73645), (5, .int x_73643), (3, .int x_73769), (0, .ref rg), (1, .int p0), (2, .int p1)]) hx hb dX5_forcedInto_127 hl (k := 3) rfl v_73791_e.symm (by decide) rfl (fun ls hl => ?_)
                        refine lv_goto (tgt := 27) hx hb dX5_forcedInto_130 (by decide) ?_
                        exact ih_73770 v_73791 x_73769 ls (tr_w h_v_73791 (by decide) (by decide)) ⟨swF_N hr73770_0.1 (by (first | (clear h_p1 h_x_73643 c_73647_i h_73649 c_73650_i c_73778_i h_73779 c_73782_i; omega) | omega)) hw_73776_p0 gi_v_73784 (fun q => q.2.elim (fun z => z.2 (v_73777_e.symm.trans c_73778)) (fun z => z.1 (by (first | (clear h_p1 h_x_73643 c_73647_i h_73649 c_73650_i c_73778_i h_73779 c_73782_i; omega) | omega)))) rfl, hr73770_0.2.1, by (first | (clear h_p1 h_x_73643 c_73647_i h_73649 c_73650_i c_73778_i h_73779 c_73782_i; omega) | omega)⟩ (by (first | (clear h_p1 h_x_73643 c_73647_i h_73649 c_73650_i c_73778_i h_73779 c_73782_i; omega) | omega)) (lv_sub hl [0, 4, 5, 6, 7, 8, 9] rfl)
                  · skip
                    have c_73782_i : (v_73781 : Int32).toInt = (0 : Int32).toInt := congrArg Int32.toInt c_73782
                    have h_73783 : 0 ≤ (v_73781 : Int32).toInt ∧ (v_73781 : Int32).toInt ≤ 0 := by rw [c_73782]; exact ⟨by decide, by decide⟩
                    refine lv_iconst (v := 1) hx hb dX5_forcedInto_73 (by decide) ?_
                    refine lv_goto (tgt := 78) hx hb dX5_forcedInto_74 (by decide) ?_
                    refine lv_istore (lv' := [(9, .int 1), (8, .int 0), (7, .int r_73775), (6, .int x_73768), (4, .int x_73645), (5, .int x_73643), (3, .int x_73769), (0, .ref rg), (1, .int p0), (2, .int p1)]) hx hb dX5_forcedInto_78 hl (by decide) rfl (fun ls hl => ?_)
                    refine lv_aload_n hx hb dX5_forcedInto_80 rfl (lv_at hl 7 rfl) ?_
                    refine va_get (D := D) (ci := 5) (v := .ref n) (C := RX5) (T := TX5) (N := 1) hx hb hts inlX5 hown hK hP 0 rfl rfl 0 (by decide) (hts (Cond.fieldLink RX5 9 "ChanceRings$Regions" "net" "LChanceRings$Net;") qw_476) (fun _ h9 => h9) rfl dX5_forcedInto_81 ?_
                    refine va_get (D := D) (ci := 2) (v := .ref n_kind) (C := RX2) (T := TX2) (N := 8) hx hb hts inlX2 hown hK hP 1 rfl rfl 1 (by decide) (hts (Cond.fieldLink RX5 25 "ChanceRings$Net" "kind" "[I") qw_482) (fun _ h9 => h9) rfl dX5_forcedInto_84 ?_
                    refine lv_iload hx hb dX5_forcedInto_87 (lv_at hl 3 rfl) ?_
                    refine va_iald hx hb hK hP 2 0 rfl rfl (tr_in h_73772 (by decide) (by decide)) dX5_forcedInto_89 ?_
                    refine lv_topi (fun v_73792 v_73792_e => ?_)
                    have h_v_73792 : 0 ≤ (v_73792 : Int32).toInt ∧ (v_73792 : Int32).toInt ≤ 3 := by rw [v_73792_e]; exact h_n_fkind _
                    have g_v_73792 : v_73792 = n_fkind (x_73768.toInt.toNat) := v_73792_e.trans (congrArg n_fkind rfl)
                    have gi_v_73792 := congrArg Int32.toInt g_v_73792
                    refine lv_if_eq (tgt := 127) hx hb dX5_forcedInto_90 (by decide) (fun c_73793 => ?_) (fun c_73793 => ?_)
                    · skip
                      have c_73793_i : (v_73792 : Int32).toInt = (0 : Int32).toInt := congrArg Int32.toInt c_73793
                      have h_73794 : 0 ≤ (v_73792 : Int32).toInt ∧ (v_73792 : Int32).toInt ≤ 0 := nr_eq_l h_v_73792 (⟨by decide, by decide⟩ : 0 ≤ (0 : Int32).toInt ∧ (0 : Int32).toInt ≤ 0) c_73793_i (by decide) (by decide)
                      obtain ⟨v_73796, v_73796_e⟩ : ∃ y : Int32, y = x_73768 + Int32.ofInt 1 := ⟨_, rfl⟩
                      have h_v_73796 : 1 ≤ (v_73796 : Int32).toInt ∧ (v_73796 : Int32).toInt ≤ 12 := by rw [v_73796_e]; exact tr_add h_73772 (⟨by decide, by decide⟩ : 1 ≤ (Int32.ofInt 1 : Int32).toInt ∧ (Int32.ofInt 1 : Int32).toInt ≤ 1) (by decide) (by decide) (by decide) (by decide)
                      have q_v_73796 : v_73796.toInt = x_73768.toInt + 1 := by rw [v_73796_e]; exact tr_addE h_73772 (⟨by decide, by decide⟩ : 1 ≤ (Int32.ofInt 1 : Int32).toInt ∧ (Int32.ofInt 1 : Int32).toInt ≤ 1) (by decide) (by decide)
                      refine lv_iinc (v := v_73796) (lv' := [(6, .int v_73796), (9, .int 1), (8, .int 0), (7, .int r_73775), (4, .int x_73645), (5, .int x_73643), (3, .int x_73769), (0, .ref rg), (1, .int p0), (2, .int p1)]) hx hb dX5_forcedInto_127 hl (k := 3) rfl v_73796_e.symm (by decide) rfl (fun ls hl => ?_)
                      refine lv_goto (tgt := 27) hx hb dX5_forcedInto_130 (by decide) ?_
                      exact ih_73770 v_73796 x_73769 ls (tr_w h_v_73796 (by decide) (by decide)) ⟨swF_0 hr73770_0.1 (by (first | (clear h_p1 h_x_73643 c_73647_i h_73649 c_73650_i c_73778_i h_73779 c_73782_i h_73783; omega) | omega)) gi_v_73792 (by have z_0 := tk_0; (first | (clear h_p1 h_x_73643 c_73647_i h_73649 c_73650_i c_73778_i h_73779 c_73782_i h_73783; omega) | omega)) rfl, hr73770_0.2.1, by (first | (clear h_p1 h_x_73643 c_73647_i h_73649 c_73650_i c_73778_i h_73779 c_73782_i h_73783; omega) | omega)⟩ (by (first | (clear h_p1 h_x_73643 c_73647_i h_73649 c_73650_i c_73778_i h_73779 c_73782_i h_73783; omega) | omega)) (lv_sub hl [0, 4, 5, 6, 7, 8, 9] rfl)
                    · skip
                      have c_73793_i : ¬ (v_73792 : Int32).toInt = (0 : Int32).toInt := (fun q => c_73793 (Int32.toInt_inj.mp q))
                      have h_73795 : 1 ≤ (v_73792 : Int32).toInt ∧ (v_73792 : Int32).toInt ≤ 3 := nr_ne_l h_v_73792 (⟨by decide, by decide⟩ : 0 ≤ (0 : Int32).toInt ∧ (0 : Int32).toInt ≤ 0) c_73793_i (by decide) (by decide)
                      refine lv_aload_n hx hb dX5_forcedInto_93 rfl (lv_at hl 7 rfl) ?_
                      refine va_get (D := D) (ci := 5) (v := .ref n) (C := RX5) (T := TX5) (N := 1) hx hb hts inlX5 hown hK hP 0 rfl rfl 0 (by decide) (hts (Cond.fieldLink RX5 9 "ChanceRings$Regions" "net" "LChanceRings$Net;") qw_476) (fun _ h9 => h9) rfl dX5_forcedInto_94 ?_
                      refine va_get (D := D) (ci := 2) (v := .ref n_kind) (C := RX2) (T := TX2) (N := 8) hx hb hts inlX2 hown hK hP 1 rfl rfl 1 (by decide) (hts (Cond.fieldLink RX5 25 "ChanceRings$Net" "kind" "[I") qw_482) (fun _ h9 => h9) rfl dX5_forcedInto_97 ?_
                      refine lv_iload hx hb dX5_forcedInto_100 (lv_at hl 3 rfl) ?_
                      refine va_iald hx hb hK hP 2 0 rfl rfl (tr_in h_73772 (by decide) (by decide)) dX5_forcedInto_102 ?_
                      refine tz_i (y := v_73792) ((congrArg n_fkind rfl).trans g_v_73792.symm) ?_
                      refine lv_iload_n hx hb dX5_forcedInto_103 rfl (lv_at hl 8 rfl) ?_
                      refine lv_icmp_ne (tgt := 115) hx hb dX5_forcedInto_104 (by decide) (fun c_73797 => ?_) (fun c_73797 => ?_)
                      · skip
                        have c_73797_i : ¬ (v_73792 : Int32).toInt = (p0 : Int32).toInt := (fun q => c_73797 (Int32.toInt_inj.mp q))
                        refine lv_iload hx hb dX5_forcedInto_115 (lv_at hl 0 rfl) ?_
                        refine lv_if_eq (tgt := 127) hx hb dX5_forcedInto_117 (by decide) (fun h9 => absurd h9 (by decide)) (fun _ => ?_)
                        refine lv_iload_n hx hb dX5_forcedInto_120 rfl (lv_at hl 6 rfl) ?_
                        refine lv_iconst (v := 1) hx hb dX5_forcedInto_121 (by decide) ?_
                        refine lv_iload hx hb dX5_forcedInto_122 (lv_at hl 3 rfl) ?_
                        refine lv_ishl hx hb dX5_forcedInto_124 ?_
                        refine lv_topi (fun v_73798 v_73798_e => ?_)
                        have h_v_73798 : 0 ≤ (v_73798 : Int32).toInt ∧ (v_73798 : Int32).toInt ≤ 4095 := by rw [v_73798_e]; exact tr_shl12 (tr_w h_73772 (by decide) (by decide))
                        refine lv_ior hx hb dX5_forcedInto_125 ?_
                        refine lv_topi (fun v_73799 v_73799_e => ?_)
                        refine lv_istore_n (lv' := [(3, .int v_73799), (9, .int 1), (8, .int 0), (7, .int r_73775), (6, .int x_73768), (4, .int x_73645), (5, .int x_73643), (0, .ref rg), (1, .int p0), (2, .int p1)]) hx hb dX5_forcedInto_126 rfl hl (by decide) rfl (fun ls hl => ?_)
                        obtain ⟨v_73800, v_73800_e⟩ : ∃ y : Int32, y = x_73768 + Int32.ofInt 1 := ⟨_, rfl⟩
                        have h_v_73800 : 1 ≤ (v_73800 : Int32).toInt ∧ (v_73800 : Int32).toInt ≤ 12 := by rw [v_73800_e]; exact tr_add h_73772 (⟨by decide, by decide⟩ : 1 ≤ (Int32.ofInt 1 : Int32).toInt ∧ (Int32.ofInt 1 : Int32).toInt ≤ 1) (by decide) (by decide) (by decide) (by decide)
                        have q_v_73800 : v_73800.toInt = x_73768.toInt + 1 := by rw [v_73800_e]; exact tr_addE h_73772 (⟨by decide, by decide⟩ : 1 ≤ (Int32.ofInt 1 : Int32).toInt ∧ (Int32.ofInt 1 : Int32).toInt ≤ 1) (by decide) (by decide)
                        refine lv_iinc (v := v_73800) (lv' := [(6, .int v_73800), (3, .int v_73799), (9, .int 1), (8, .int 0), (7, .int r_73775), (4, .int x_73645), (5, .int x_73643), (0, .ref rg), (1, .int p0), (2, .int p1)]) hx hb dX5_forcedInto_127 hl (k := 4) rfl v_73800_e.symm (by decide) rfl (fun ls hl => ?_)
                        refine lv_goto (tgt := 27) hx hb dX5_forcedInto_130 (by decide) ?_
                        exact ih_73770 v_73800 v_73799 ls (tr_w h_v_73800 (by decide) (by decide)) ⟨swF_Y hr73770_0.1 (by (first | (clear h_p1 h_x_73643 c_73647_i h_73649 c_73650_i c_73778_i h_73779 c_73782_i h_73783 h_v_73798; omega) | omega)) hw_73776_p0 gi_v_73792 ⟨(by have z_0 := tk_0; (first | (clear h_p1 h_x_73643 c_73647_i h_73649 c_73650_i c_73778_i h_73779 c_73782_i h_73783 h_v_73798; omega) | omega)), Or.inr ⟨(by (first | (clear h_p1 h_x_73643 c_73647_i h_73649 c_73650_i c_73778_i h_73779 c_73782_i h_73783 h_v_73798; omega) | omega)), by rw [← v_73780_e, ← v_73781_e]; exact c_73782⟩⟩ (bit1_at v_73798_e (by (first | (clear h_p1 h_x_73643 c_73647_i h_73649 c_73650_i c_73778_i h_73779 c_73782_i h_73783 h_v_73798; omega) | omega))) v_73799_e, hr73770_0.2.1, by (first | (clear h_p1 h_x_73643 c_73647_i h_73649 c_73650_i c_73778_i h_73779 c_73782_i h_73783 h_v_73798; omega) | omega)⟩ (by (first | (clear h_p1 h_x_73643 c_73647_i h_73649 c_73650_i c_73778_i h_73779 c_73782_i h_73783 h_v_73798; omega) | omega)) (lv_sub hl [0, 5, 6, 1, 7, 8, 9] rfl)
                      · skip
                        have c_73797_i : (v_73792 : Int32).toInt = (p0 : Int32).toInt := congrArg Int32.toInt c_73797
                        refine lv_iload hx hb dX5_forcedInto_107 (lv_at hl 1 rfl) ?_
                        refine lv_if_eq (tgt := 127) hx hb dX5_forcedInto_109 (by decide) (fun _ => ?_) (fun h9 => (h9 (by decide)).elim)
                        obtain ⟨v_73801, v_73801_e⟩ : ∃ y : Int32, y = x_73768 + Int32.ofInt 1 := ⟨_, rfl⟩
                        have h_v_73801 : 1 ≤ (v_73801 : Int32).toInt ∧ (v_73801 : Int32).toInt ≤ 12 := by rw [v_73801_e]; exact tr_add h_73772 (⟨by decide, by decide⟩ : 1 ≤ (Int32.ofInt 1 : Int32).toInt ∧ (Int32.ofInt 1 : Int32).toInt ≤ 1) (by decide) (by decide) (by decide) (by decide)
                        have q_v_73801 : v_73801.toInt = x_73768.toInt + 1 := by rw [v_73801_e]; exact tr_addE h_73772 (⟨by decide, by decide⟩ : 1 ≤ (Int32.ofInt 1 : Int32).toInt ∧ (Int32.ofInt 1 : Int32).toInt ≤ 1) (by decide) (by decide)
                        refine lv_iinc (v := v_73801) (lv' := [(6, .int v_73801), (9, .int 1), (8, .int 0), (7, .int r_73775), (4, .int x_73645), (5, .int x_73643), (3, .int x_73769), (0, .ref rg), (1, .int p0), (2, .int p1)]) hx hb dX5_forcedInto_127 hl (k := 3) rfl v_73801_e.symm (by decide) rfl (fun ls hl => ?_)
                        refine lv_goto (tgt := 27) hx hb dX5_forcedInto_130 (by decide) ?_
                        exact ih_73770 v_73801 x_73769 ls (tr_w h_v_73801 (by decide) (by decide)) ⟨swF_N hr73770_0.1 (by (first | (clear h_p1 h_x_73643 c_73647_i h_73649 c_73650_i c_73778_i h_73779 c_73782_i h_73783; omega) | omega)) hw_73776_p0 gi_v_73792 (fun q => q.2.elim (fun z => z.2 (v_73777_e.symm.trans c_73778)) (fun z => z.1 (by (first | (clear h_p1 h_x_73643 c_73647_i h_73649 c_73650_i c_73778_i h_73779 c_73782_i h_73783; omega) | omega)))) rfl, hr73770_0.2.1, by (first | (clear h_p1 h_x_73643 c_73647_i h_73649 c_73650_i c_73778_i h_73779 c_73782_i h_73783; omega) | omega)⟩ (by (first | (clear h_p1 h_x_73643 c_73647_i h_73649 c_73650_i c_73778_i h_73779 c_73782_i h_73783; omega) | omega)) (lv_sub hl [0, 4, 5, 6, 7, 8, 9] rfl)
                · skip
                  have kk_0 := tk_0
                  have c_73778_i : ¬ (v_73777 : Int32).toInt = (0 : Int32).toInt := (fun q => c_73778 (Int32.toInt_inj.mp q))
                  refine lv_iconst (v := 1) hx hb dX5_forcedInto_57 (by decide) ?_
                  refine lv_goto (tgt := 62) hx hb dX5_forcedInto_58 (by decide) ?_
                  refine lv_istore (lv' := [(8, .int 1), (7, .int r_73775), (6, .int x_73768), (4, .int x_73645), (5, .int x_73643), (3, .int x_73769), (0, .ref rg), (1, .int p0), (2, .int p1)]) hx hb dX5_forcedInto_62 hl (by decide) rfl (fun ls hl => ?_)
                  refine lv_iload hx hb dX5_forcedInto_64 (lv_at hl 1 rfl) ?_
                  refine lv_iload_n hx hb dX5_forcedInto_66 rfl (lv_at hl 5 rfl) ?_
                  refine lv_iconst (v := (-1)) hx hb dX5_forcedInto_67 (by decide) ?_
                  refine lv_ixor hx hb dX5_forcedInto_68 ?_
                  refine lv_topi (fun v_73802 v_73802_e => ?_)
                  refine lv_iand hx hb dX5_forcedInto_69 ?_
                  refine lv_topi (fun v_73803 v_73803_e => ?_)
                  refine lv_if_ne (tgt := 77) hx hb dX5_forcedInto_70 (by decide) (fun c_73804 => ?_) (fun c_73804 => ?_)
                  · skip
                    have c_73804_i : ¬ (v_73803 : Int32).toInt = (0 : Int32).toInt := (fun q => c_73804 (Int32.toInt_inj.mp q))
                    refine lv_iconst (v := 0) hx hb dX5_forcedInto_77 (by decide) ?_
                    refine lv_istore (lv' := [(9, .int 0), (8, .int 1), (7, .int r_73775), (6, .int x_73768), (4, .int x_73645), (5, .int x_73643), (3, .int x_73769), (0, .ref rg), (1, .int p0), (2, .int p1)]) hx hb dX5_forcedInto_78 hl (by decide) rfl (fun ls hl => ?_)
                    refine lv_aload_n hx hb dX5_forcedInto_80 rfl (lv_at hl 7 rfl) ?_
                    refine va_get (D := D) (ci := 5) (v := .ref n) (C := RX5) (T := TX5) (N := 1) hx hb hts inlX5 hown hK hP 0 rfl rfl 0 (by decide) (hts (Cond.fieldLink RX5 9 "ChanceRings$Regions" "net" "LChanceRings$Net;") qw_476) (fun _ h9 => h9) rfl dX5_forcedInto_81 ?_
                    refine va_get (D := D) (ci := 2) (v := .ref n_kind) (C := RX2) (T := TX2) (N := 8) hx hb hts inlX2 hown hK hP 1 rfl rfl 1 (by decide) (hts (Cond.fieldLink RX5 25 "ChanceRings$Net" "kind" "[I") qw_482) (fun _ h9 => h9) rfl dX5_forcedInto_84 ?_
                    refine lv_iload hx hb dX5_forcedInto_87 (lv_at hl 3 rfl) ?_
                    refine va_iald hx hb hK hP 2 0 rfl rfl (tr_in h_73772 (by decide) (by decide)) dX5_forcedInto_89 ?_
                    refine lv_topi (fun v_73806 v_73806_e => ?_)
                    have h_v_73806 : 0 ≤ (v_73806 : Int32).toInt ∧ (v_73806 : Int32).toInt ≤ 3 := by rw [v_73806_e]; exact h_n_fkind _
                    have g_v_73806 : v_73806 = n_fkind (x_73768.toInt.toNat) := v_73806_e.trans (congrArg n_fkind rfl)
                    have gi_v_73806 := congrArg Int32.toInt g_v_73806
                    refine lv_if_eq (tgt := 127) hx hb dX5_forcedInto_90 (by decide) (fun c_73807 => ?_) (fun c_73807 => ?_)
                    · skip
                      have c_73807_i : (v_73806 : Int32).toInt = (0 : Int32).toInt := congrArg Int32.toInt c_73807
                      have h_73808 : 0 ≤ (v_73806 : Int32).toInt ∧ (v_73806 : Int32).toInt ≤ 0 := nr_eq_l h_v_73806 (⟨by decide, by decide⟩ : 0 ≤ (0 : Int32).toInt ∧ (0 : Int32).toInt ≤ 0) c_73807_i (by decide) (by decide)
                      obtain ⟨v_73810, v_73810_e⟩ : ∃ y : Int32, y = x_73768 + Int32.ofInt 1 := ⟨_, rfl⟩
                      have h_v_73810 : 1 ≤ (v_73810 : Int32).toInt ∧ (v_73810 : Int32).toInt ≤ 12 := by rw [v_73810_e]; exact tr_add h_73772 (⟨by decide, by decide⟩ : 1 ≤ (Int32.ofInt 1 : Int32).toInt ∧ (Int32.ofInt 1 : Int32).toInt ≤ 1) (by decide) (by decide) (by decide) (by decide)
                      have q_v_73810 : v_73810.toInt = x_73768.toInt + 1 := by rw [v_73810_e]; exact tr_addE h_73772 (⟨by decide, by decide⟩ : 1 ≤ (Int32.ofInt 1 : Int32).toInt ∧ (Int32.ofInt 1 : Int32).toInt ≤ 1) (by decide) (by decide)
                      refine lv_iinc (v := v_73810) (lv' := [(6, .int v_73810), (9, .int 0), (8, .int 1), (7, .int r_73775), (4, .int x_73645), (5, .int x_73643), (3, .int x_73769), (0, .ref rg), (1, .int p0), (2, .int p1)]) hx hb dX5_forcedInto_127 hl (k := 3) rfl v_73810_e.symm (by decide) rfl (fun ls hl => ?_)
                      refine lv_goto (tgt := 27) hx hb dX5_forcedInto_130 (by decide) ?_
                      exact ih_73770 v_73810 x_73769 ls (tr_w h_v_73810 (by decide) (by decide)) ⟨swF_0 hr73770_0.1 (by (first | (clear h_p1 h_x_73643 c_73647_i h_73649 c_73650_i c_73778_i c_73804_i; omega) | omega)) gi_v_73806 (by have z_0 := tk_0; (first | (clear h_p1 h_x_73643 c_73647_i h_73649 c_73650_i c_73778_i c_73804_i; omega) | omega)) rfl, hr73770_0.2.1, by (first | (clear h_p1 h_x_73643 c_73647_i h_73649 c_73650_i c_73778_i c_73804_i; omega) | omega)⟩ (by (first | (clear h_p1 h_x_73643 c_73647_i h_73649 c_73650_i c_73778_i c_73804_i; omega) | omega)) (lv_sub hl [0, 4, 5, 6, 7, 8, 9] rfl)
                    · skip
                      have c_73807_i : ¬ (v_73806 : Int32).toInt = (0 : Int32).toInt := (fun q => c_73807 (Int32.toInt_inj.mp q))
                      have h_73809 : 1 ≤ (v_73806 : Int32).toInt ∧ (v_73806 : Int32).toInt ≤ 3 := nr_ne_l h_v_73806 (⟨by decide, by decide⟩ : 0 ≤ (0 : Int32).toInt ∧ (0 : Int32).toInt ≤ 0) c_73807_i (by decide) (by decide)
                      refine lv_aload_n hx hb dX5_forcedInto_93 rfl (lv_at hl 7 rfl) ?_
                      refine va_get (D := D) (ci := 5) (v := .ref n) (C := RX5) (T := TX5) (N := 1) hx hb hts inlX5 hown hK hP 0 rfl rfl 0 (by decide) (hts (Cond.fieldLink RX5 9 "ChanceRings$Regions" "net" "LChanceRings$Net;") qw_476) (fun _ h9 => h9) rfl dX5_forcedInto_94 ?_
                      refine va_get (D := D) (ci := 2) (v := .ref n_kind) (C := RX2) (T := TX2) (N := 8) hx hb hts inlX2 hown hK hP 1 rfl rfl 1 (by decide) (hts (Cond.fieldLink RX5 25 "ChanceRings$Net" "kind" "[I") qw_482) (fun _ h9 => h9) rfl dX5_forcedInto_97 ?_
                      refine lv_iload hx hb dX5_forcedInto_100 (lv_at hl 3 rfl) ?_
                      refine va_iald hx hb hK hP 2 0 rfl rfl (tr_in h_73772 (by decide) (by decide)) dX5_forcedInto_102 ?_
                      refine tz_i (y := v_73806) ((congrArg n_fkind rfl).trans g_v_73806.symm) ?_
                      refine lv_iload_n hx hb dX5_forcedInto_103 rfl (lv_at hl 8 rfl) ?_
                      refine lv_icmp_ne (tgt := 115) hx hb dX5_forcedInto_104 (by decide) (fun c_73811 => ?_) (fun c_73811 => ?_)
                      · skip
                        have c_73811_i : ¬ (v_73806 : Int32).toInt = (p0 : Int32).toInt := (fun q => c_73811 (Int32.toInt_inj.mp q))
                        refine lv_iload hx hb dX5_forcedInto_115 (lv_at hl 0 rfl) ?_
                        refine lv_if_eq (tgt := 127) hx hb dX5_forcedInto_117 (by decide) (fun _ => ?_) (fun h9 => (h9 (by decide)).elim)
                        obtain ⟨v_73812, v_73812_e⟩ : ∃ y : Int32, y = x_73768 + Int32.ofInt 1 := ⟨_, rfl⟩
                        have h_v_73812 : 1 ≤ (v_73812 : Int32).toInt ∧ (v_73812 : Int32).toInt ≤ 12 := by rw [v_73812_e]; exact tr_add h_73772 (⟨by decide, by decide⟩ : 1 ≤ (Int32.ofInt 1 : Int32).toInt ∧ (Int32.ofInt 1 : Int32).toInt ≤ 1) (by decide) (by decide) (by decide) (by decide)
                        have q_v_73812 : v_73812.toInt = x_73768.toInt + 1 := by rw [v_73812_e]; exact tr_addE h_73772 (⟨by decide, by decide⟩ : 1 ≤ (Int32.ofInt 1 : Int32).toInt ∧ (Int32.ofInt 1 : Int32).toInt ≤ 1) (by decide) (by decide)
                        refine lv_iinc (v := v_73812) (lv' := [(6, .int v_73812), (9, .int 0), (8, .int 1), (7, .int r_73775), (4, .int x_73645), (5, .int x_73643), (3, .int x_73769), (0, .ref rg), (1, .int p0), (2, .int p1)]) hx hb dX5_forcedInto_127 hl (k := 3) rfl v_73812_e.symm (by decide) rfl (fun ls hl => ?_)
                        refine lv_goto (tgt := 27) hx hb dX5_forcedInto_130 (by decide) ?_
                        exact ih_73770 v_73812 x_73769 ls (tr_w h_v_73812 (by decide) (by decide)) ⟨swF_N hr73770_0.1 (by (first | (clear h_p1 h_x_73643 c_73647_i h_73649 c_73650_i c_73778_i c_73804_i; omega) | omega)) hw_73776_p0 gi_v_73806 (fun q => q.2.elim (fun z => absurd z.1 (by (first | (clear h_p1 h_x_73643 c_73647_i h_73649 c_73650_i c_73778_i c_73804_i; omega) | omega))) (fun z => c_73804 (by rw [v_73803_e, v_73802_e]; exact z.2))) rfl, hr73770_0.2.1, by (first | (clear h_p1 h_x_73643 c_73647_i h_73649 c_73650_i c_73778_i c_73804_i; omega) | omega)⟩ (by (first | (clear h_p1 h_x_73643 c_73647_i h_73649 c_73650_i c_73778_i c_73804_i; omega) | omega)) (lv_sub hl [0, 4, 5, 6, 7, 8, 9] rfl)
                      · skip
                        have c_73811_i : (v_73806 : Int32).toInt = (p0 : Int32).toInt := congrArg Int32.toInt c_73811
                        refine lv_iload hx hb dX5_forcedInto_107 (lv_at hl 1 rfl) ?_
                        refine lv_if_eq (tgt := 127) hx hb dX5_forcedInto_109 (by decide) (fun h9 => absurd h9 (by decide)) (fun _ => ?_)
                        refine lv_goto (tgt := 120) hx hb dX5_forcedInto_112 (by decide) ?_
                        refine lv_iload_n hx hb dX5_forcedInto_120 rfl (lv_at hl 6 rfl) ?_
                        refine lv_iconst (v := 1) hx hb dX5_forcedInto_121 (by decide) ?_
                        refine lv_iload hx hb dX5_forcedInto_122 (lv_at hl 3 rfl) ?_
                        refine lv_ishl hx hb dX5_forcedInto_124 ?_
                        refine lv_topi (fun v_73813 v_73813_e => ?_)
                        have h_v_73813 : 0 ≤ (v_73813 : Int32).toInt ∧ (v_73813 : Int32).toInt ≤ 4095 := by rw [v_73813_e]; exact tr_shl12 (tr_w h_73772 (by decide) (by decide))
                        refine lv_ior hx hb dX5_forcedInto_125 ?_
                        refine lv_topi (fun v_73814 v_73814_e => ?_)
                        refine lv_istore_n (lv' := [(3, .int v_73814), (9, .int 0), (8, .int 1), (7, .int r_73775), (6, .int x_73768), (4, .int x_73645), (5, .int x_73643), (0, .ref rg), (1, .int p0), (2, .int p1)]) hx hb dX5_forcedInto_126 rfl hl (by decide) rfl (fun ls hl => ?_)
                        obtain ⟨v_73815, v_73815_e⟩ : ∃ y : Int32, y = x_73768 + Int32.ofInt 1 := ⟨_, rfl⟩
                        have h_v_73815 : 1 ≤ (v_73815 : Int32).toInt ∧ (v_73815 : Int32).toInt ≤ 12 := by rw [v_73815_e]; exact tr_add h_73772 (⟨by decide, by decide⟩ : 1 ≤ (Int32.ofInt 1 : Int32).toInt ∧ (Int32.ofInt 1 : Int32).toInt ≤ 1) (by decide) (by decide) (by decide) (by decide)
                        have q_v_73815 : v_73815.toInt = x_73768.toInt + 1 := by rw [v_73815_e]; exact tr_addE h_73772 (⟨by decide, by decide⟩ : 1 ≤ (Int32.ofInt 1 : Int32).toInt ∧ (Int32.ofInt 1 : Int32).toInt ≤ 1) (by decide) (by decide)
                        refine lv_iinc (v := v_73815) (lv' := [(6, .int v_73815), (3, .int v_73814), (9, .int 0), (8, .int 1), (7, .int r_73775), (4, .int x_73645), (5, .int x_73643), (0, .ref rg), (1, .int p0), (2, .int p1)]) hx hb dX5_forcedInto_127 hl (k := 4) rfl v_73815_e.symm (by decide) rfl (fun ls hl => ?_)
                        refine lv_goto (tgt := 27) hx hb dX5_forcedInto_130 (by decide) ?_
                        exact ih_73770 v_73815 v_73814 ls (tr_w h_v_73815 (by decide) (by decide)) ⟨swF_Y hr73770_0.1 (by (first | (clear h_p1 h_x_73643 c_73647_i h_73649 c_73650_i c_73778_i c_73804_i h_v_73813; omega) | omega)) hw_73776_p0 gi_v_73806 ⟨(by have z_0 := tk_0; (first | (clear h_p1 h_x_73643 c_73647_i h_73649 c_73650_i c_73778_i c_73804_i h_v_73813; omega) | omega)), Or.inl ⟨(by (first | (clear h_p1 h_x_73643 c_73647_i h_73649 c_73650_i c_73778_i c_73804_i h_v_73813; omega) | omega)), fun q9 => c_73778 (v_73777_e.trans q9)⟩⟩ (bit1_at v_73813_e (by (first | (clear h_p1 h_x_73643 c_73647_i h_73649 c_73650_i c_73778_i c_73804_i h_v_73813; omega) | omega))) v_73814_e, hr73770_0.2.1, by (first | (clear h_p1 h_x_73643 c_73647_i h_73649 c_73650_i c_73778_i c_73804_i h_v_73813; omega) | omega)⟩ (by (first | (clear h_p1 h_x_73643 c_73647_i h_73649 c_73650_i c_73778_i c_73804_i h_v_73813; omega) | omega)) (lv_sub hl [0, 5, 6, 1, 7, 8, 9] rfl)
                  · skip
                    have c_73804_i : (v_73803 : Int32).toInt = (0 : Int32).toInt := congrArg Int32.toInt c_73804
                    have h_73805 : 0 ≤ (v_73803 : Int32).toInt ∧ (v_73803 : Int32).toInt ≤ 0 := by rw [c_73804]; exact ⟨by decide, by decide⟩
                    refine lv_iconst (v := 1) hx hb dX5_forcedInto_73 (by decide) ?_
                    refine lv_goto (tgt := 78) hx hb dX5_forcedInto_74 (by decide) ?_
                    refine lv_istore (lv' := [(9, .int 1), (8, .int 1), (7, .int r_73775), (6, .int x_73768), (4, .int x_73645), (5, .int x_73643), (3, .int x_73769), (0, .ref rg), (1, .int p0), (2, .int p1)]) hx hb dX5_forcedInto_78 hl (by decide) rfl (fun ls hl => ?_)
                    refine lv_aload_n hx hb dX5_forcedInto_80 rfl (lv_at hl 7 rfl) ?_
                    refine va_get (D := D) (ci := 5) (v := .ref n) (C := RX5) (T := TX5) (N := 1) hx hb hts inlX5 hown hK hP 0 rfl rfl 0 (by decide) (hts (Cond.fieldLink RX5 9 "ChanceRings$Regions" "net" "LChanceRings$Net;") qw_476) (fun _ h9 => h9) rfl dX5_forcedInto_81 ?_
                    refine va_get (D := D) (ci := 2) (v := .ref n_kind) (C := RX2) (T := TX2) (N := 8) hx hb hts inlX2 hown hK hP 1 rfl rfl 1 (by decide) (hts (Cond.fieldLink RX5 25 "ChanceRings$Net" "kind" "[I") qw_482) (fun _ h9 => h9) rfl dX5_forcedInto_84 ?_
                    refine lv_iload hx hb dX5_forcedInto_87 (lv_at hl 3 rfl) ?_
                    refine va_iald hx hb hK hP 2 0 rfl rfl (tr_in h_73772 (by decide) (by decide)) dX5_forcedInto_89 ?_
                    refine lv_topi (fun v_73816 v_73816_e => ?_)
                    have h_v_73816 : 0 ≤ (v_73816 : Int32).toInt ∧ (v_73816 : Int32).toInt ≤ 3 := by rw [v_73816_e]; exact h_n_fkind _
                    have g_v_73816 : v_73816 = n_fkind (x_73768.toInt.toNat) := v_73816_e.trans (congrArg n_fkind rfl)
                    have gi_v_73816 := congrArg Int32.toInt g_v_73816
                    refine lv_if_eq (tgt := 127) hx hb dX5_forcedInto_90 (by decide) (fun c_73817 => ?_) (fun c_73817 => ?_)
                    · skip
                      have c_73817_i : (v_73816 : Int32).toInt = (0 : Int32).toInt := congrArg Int32.toInt c_73817
                      have h_73818 : 0 ≤ (v_73816 : Int32).toInt ∧ (v_73816 : Int32).toInt ≤ 0 := nr_eq_l h_v_73816 (⟨by decide, by decide⟩ : 0 ≤ (0 : Int32).toInt ∧ (0 : Int32).toInt ≤ 0) c_73817_i (by decide) (by decide)
                      obtain ⟨v_73820, v_73820_e⟩ : ∃ y : Int32, y = x_73768 + Int32.ofInt 1 := ⟨_, rfl⟩
                      have h_v_73820 : 1 ≤ (v_73820 : Int32).toInt ∧ (v_73820 : Int32).toInt ≤ 12 := by rw [v_73820_e]; exact tr_add h_73772 (⟨by decide, by decide⟩ : 1 ≤ (Int32.ofInt 1 : Int32).toInt ∧ (Int32.ofInt 1 : Int32).toInt ≤ 1) (by decide) (by decide) (by decide) (by decide)
                      have q_v_73820 : v_73820.toInt = x_73768.toInt + 1 := by rw [v_73820_e]; exact tr_addE h_73772 (⟨by decide, by decide⟩ : 1 ≤ (Int32.ofInt 1 : Int32).toInt ∧ (Int32.ofInt 1 : Int32).toInt ≤ 1) (by decide) (by decide)
                      refine lv_iinc (v := v_73820) (lv' := [(6, .int v_73820), (9, .int 1), (8, .int 1), (7, .int r_73775), (4, .int x_73645), (5, .int x_73643), (3, .int x_73769), (0, .ref rg), (1, .int p0), (2, .int p1)]) hx hb dX5_forcedInto_127 hl (k := 3) rfl v_73820_e.symm (by decide) rfl (fun ls hl => ?_)
                      refine lv_goto (tgt := 27) hx hb dX5_forcedInto_130 (by decide) ?_
                      exact ih_73770 v_73820 x_73769 ls (tr_w h_v_73820 (by decide) (by decide)) ⟨swF_0 hr73770_0.1 (by (first | (clear h_p1 h_x_73643 c_73647_i h_73649 c_73650_i c_73778_i c_73804_i h_73805; omega) | omega)) gi_v_73816 (by have z_0 := tk_0; (first | (clear h_p1 h_x_73643 c_73647_i h_73649 c_73650_i c_73778_i c_73804_i h_73805; omega) | omega)) rfl, hr73770_0.2.1, by (first | (clear h_p1 h_x_73643 c_73647_i h_73649 c_73650_i c_73778_i c_73804_i h_73805; omega) | omega)⟩ (by (first | (clear h_p1 h_x_73643 c_73647_i h_73649 c_73650_i c_73778_i c_73804_i h_73805; omega) | omega)) (lv_sub hl [0, 4, 5, 6, 7, 8, 9] rfl)
                    · skip
                      have c_73817_i : ¬ (v_73816 : Int32).toInt = (0 : Int32).toInt := (fun q => c_73817 (Int32.toInt_inj.mp q))
                      have h_73819 : 1 ≤ (v_73816 : Int32).toInt ∧ (v_73816 : Int32).toInt ≤ 3 := nr_ne_l h_v_73816 (⟨by decide, by decide⟩ : 0 ≤ (0 : Int32).toInt ∧ (0 : Int32).toInt ≤ 0) c_73817_i (by decide) (by decide)
                      refine lv_aload_n hx hb dX5_forcedInto_93 rfl (lv_at hl 7 rfl) ?_
                      refine va_get (D := D) (ci := 5) (v := .ref n) (C := RX5) (T := TX5) (N := 1) hx hb hts inlX5 hown hK hP 0 rfl rfl 0 (by decide) (hts (Cond.fieldLink RX5 9 "ChanceRings$Regions" "net" "LChanceRings$Net;") qw_476) (fun _ h9 => h9) rfl dX5_forcedInto_94 ?_
                      refine va_get (D := D) (ci := 2) (v := .ref n_kind) (C := RX2) (T := TX2) (N := 8) hx hb hts inlX2 hown hK hP 1 rfl rfl 1 (by decide) (hts (Cond.fieldLink RX5 25 "ChanceRings$Net" "kind" "[I") qw_482) (fun _ h9 => h9) rfl dX5_forcedInto_97 ?_
                      refine lv_iload hx hb dX5_forcedInto_100 (lv_at hl 3 rfl) ?_
                      refine va_iald hx hb hK hP 2 0 rfl rfl (tr_in h_73772 (by decide) (by decide)) dX5_forcedInto_102 ?_
                      refine tz_i (y := v_73816) ((congrArg n_fkind rfl).trans g_v_73816.symm) ?_
                      refine lv_iload_n hx hb dX5_forcedInto_103 rfl (lv_at hl 8 rfl) ?_
                      refine lv_icmp_ne (tgt := 115) hx hb dX5_forcedInto_104 (by decide) (fun c_73821 => ?_) (fun c_73821 => ?_)
                      · skip
                        have c_73821_i : ¬ (v_73816 : Int32).toInt = (p0 : Int32).toInt := (fun q => c_73821 (Int32.toInt_inj.mp q))
                        refine lv_iload hx hb dX5_forcedInto_115 (lv_at hl 0 rfl) ?_
                        refine lv_if_eq (tgt := 127) hx hb dX5_forcedInto_117 (by decide) (fun h9 => absurd h9 (by decide)) (fun _ => ?_)
                        refine lv_iload_n hx hb dX5_forcedInto_120 rfl (lv_at hl 6 rfl) ?_
                        refine lv_iconst (v := 1) hx hb dX5_forcedInto_121 (by decide) ?_
                        refine lv_iload hx hb dX5_forcedInto_122 (lv_at hl 3 rfl) ?_
                        refine lv_ishl hx hb dX5_forcedInto_124 ?_
                        refine lv_topi (fun v_73822 v_73822_e => ?_)
                        have h_v_73822 : 0 ≤ (v_73822 : Int32).toInt ∧ (v_73822 : Int32).toInt ≤ 4095 := by rw [v_73822_e]; exact tr_shl12 (tr_w h_73772 (by decide) (by decide))
                        refine lv_ior hx hb dX5_forcedInto_125 ?_
                        refine lv_topi (fun v_73823 v_73823_e => ?_)
                        refine lv_istore_n (lv' := [(3, .int v_73823), (9, .int 1), (8, .int 1), (7, .int r_73775), (6, .int x_73768), (4, .int x_73645), (5, .int x_73643), (0, .ref rg), (1, .int p0), (2, .int p1)]) hx hb dX5_forcedInto_126 rfl hl (by decide) rfl (fun ls hl => ?_)
                        obtain ⟨v_73824, v_73824_e⟩ : ∃ y : Int32, y = x_73768 + Int32.ofInt 1 := ⟨_, rfl⟩
                        have h_v_73824 : 1 ≤ (v_73824 : Int32).toInt ∧ (v_73824 : Int32).toInt ≤ 12 := by rw [v_73824_e]; exact tr_add h_73772 (⟨by decide, by decide⟩ : 1 ≤ (Int32.ofInt 1 : Int32).toInt ∧ (Int32.ofInt 1 : Int32).toInt ≤ 1) (by decide) (by decide) (by decide) (by decide)
                        have q_v_73824 : v_73824.toInt = x_73768.toInt + 1 := by rw [v_73824_e]; exact tr_addE h_73772 (⟨by decide, by decide⟩ : 1 ≤ (Int32.ofInt 1 : Int32).toInt ∧ (Int32.ofInt 1 : Int32).toInt ≤ 1) (by decide) (by decide)
                        refine lv_iinc (v := v_73824) (lv' := [(6, .int v_73824), (3, .int v_73823), (9, .int 1), (8, .int 1), (7, .int r_73775), (4, .int x_73645), (5, .int x_73643), (0, .ref rg), (1, .int p0), (2, .int p1)]) hx hb dX5_forcedInto_127 hl (k := 4) rfl v_73824_e.symm (by decide) rfl (fun ls hl => ?_)
                        refine lv_goto (tgt := 27) hx hb dX5_forcedInto_130 (by decide) ?_
                        exact ih_73770 v_73824 v_73823 ls (tr_w h_v_73824 (by decide) (by decide)) ⟨swF_Y hr73770_0.1 (by (first | (clear h_p1 h_x_73643 c_73647_i h_73649 c_73650_i c_73778_i c_73804_i h_73805 h_v_73822; omega) | omega)) hw_73776_p0 gi_v_73816 ⟨(by have z_0 := tk_0; (first | (clear h_p1 h_x_73643 c_73647_i h_73649 c_73650_i c_73778_i c_73804_i h_73805 h_v_73822; omega) | omega)), Or.inr ⟨(by (first | (clear h_p1 h_x_73643 c_73647_i h_73649 c_73650_i c_73778_i c_73804_i h_73805 h_v_73822; omega) | omega)), by rw [← v_73802_e, ← v_73803_e]; exact c_73804⟩⟩ (bit1_at v_73822_e (by (first | (clear h_p1 h_x_73643 c_73647_i h_73649 c_73650_i c_73778_i c_73804_i h_73805 h_v_73822; omega) | omega))) v_73823_e, hr73770_0.2.1, by (first | (clear h_p1 h_x_73643 c_73647_i h_73649 c_73650_i c_73778_i c_73804_i h_73805 h_v_73822; omega) | omega)⟩ (by (first | (clear h_p1 h_x_73643 c_73647_i h_73649 c_73650_i c_73778_i c_73804_i h_73805 h_v_73822; omega) | omega)) (lv_sub hl [0, 5, 6, 1, 7, 8, 9] rfl)
                      · skip
                        have c_73821_i : (v_73816 : Int32).toInt = (p0 : Int32).toInt := congrArg Int32.toInt c_73821
                        refine lv_iload hx hb dX5_forcedInto_107 (lv_at hl 1 rfl) ?_
                        refine lv_if_eq (tgt := 127) hx hb dX5_forcedInto_109 (by decide) (fun h9 => absurd h9 (by decide)) (fun _ => ?_)
                        refine lv_goto (tgt := 120) hx hb dX5_forcedInto_112 (by decide) ?_
                        refine lv_iload_n hx hb dX5_forcedInto_120 rfl (lv_at hl 6 rfl) ?_
                        refine lv_iconst (v := 1) hx hb dX5_forcedInto_121 (by decide) ?_
                        refine lv_iload hx hb dX5_forcedInto_122 (lv_at hl 3 rfl) ?_
                        refine lv_ishl hx hb dX5_forcedInto_124 ?_
                        refine lv_topi (fun v_73825 v_73825_e => ?_)
                        have h_v_73825 : 0 ≤ (v_73825 : Int32).toInt ∧ (v_73825 : Int32).toInt ≤ 4095 := by rw [v_73825_e]; exact tr_shl12 (tr_w h_73772 (by decide) (by decide))
                        refine lv_ior hx hb dX5_forcedInto_125 ?_
                        refine lv_topi (fun v_73826 v_73826_e => ?_)
                        refine lv_istore_n (lv' := [(3, .int v_73826), (9, .int 1), (8, .int 1), (7, .int r_73775), (6, .int x_73768), (4, .int x_73645), (5, .int x_73643), (0, .ref rg), (1, .int p0), (2, .int p1)]) hx hb dX5_forcedInto_126 rfl hl (by decide) rfl (fun ls hl => ?_)
                        obtain ⟨v_73827, v_73827_e⟩ : ∃ y : Int32, y = x_73768 + Int32.ofInt 1 := ⟨_, rfl⟩
                        have h_v_73827 : 1 ≤ (v_73827 : Int32).toInt ∧ (v_73827 : Int32).toInt ≤ 12 := by rw [v_73827_e]; exact tr_add h_73772 (⟨by decide, by decide⟩ : 1 ≤ (Int32.ofInt 1 : Int32).toInt ∧ (Int32.ofInt 1 : Int32).toInt ≤ 1) (by decide) (by decide) (by decide) (by decide)
                        have q_v_73827 : v_73827.toInt = x_73768.toInt + 1 := by rw [v_73827_e]; exact tr_addE h_73772 (⟨by decide, by decide⟩ : 1 ≤ (Int32.ofInt 1 : Int32).toInt ∧ (Int32.ofInt 1 : Int32).toInt ≤ 1) (by decide) (by decide)
                        refine lv_iinc (v := v_73827) (lv' := [(6, .int v_73827), (3, .int v_73826), (9, .int 1), (8, .int 1), (7, .int r_73775), (4, .int x_73645), (5, .int x_73643), (0, .ref rg), (1, .int p0), (2, .int p1)]) hx hb dX5_forcedInto_127 hl (k := 4) rfl v_73827_e.symm (by decide) rfl (fun ls hl => ?_)
                        refine lv_goto (tgt := 27) hx hb dX5_forcedInto_130 (by decide) ?_
                        exact ih_73770 v_73827 v_73826 ls (tr_w h_v_73827 (by decide) (by decide)) ⟨swF_Y hr73770_0.1 (by (first | (clear h_p1 h_x_73643 c_73647_i h_73649 c_73650_i c_73778_i c_73804_i h_73805 h_v_73825; omega) | omega)) hw_73776_p0 gi_v_73816 ⟨(by have z_0 := tk_0; (first | (clear h_p1 h_x_73643 c_73647_i h_73649 c_73650_i c_73778_i c_73804_i h_73805 h_v_73825; omega) | omega)), Or.inl ⟨(by (first | (clear h_p1 h_x_73643 c_73647_i h_73649 c_73650_i c_73778_i c_73804_i h_73805 h_v_73825; omega) | omega)), fun q9 => c_73778 (v_73777_e.trans q9)⟩⟩ (bit1_at v_73825_e (by (first | (clear h_p1 h_x_73643 c_73647_i h_73649 c_73650_i c_73778_i c_73804_i h_73805 h_v_73825; omega) | omega))) v_73826_e, hr73770_0.2.1, by (first | (clear h_p1 h_x_73643 c_73647_i h_73649 c_73650_i c_73778_i c_73804_i h_73805 h_v_73825; omega) | omega)⟩ (by (first | (clear h_p1 h_x_73643 c_73647_i h_73649 c_73650_i c_73778_i c_73804_i h_73805 h_v_73825; omega) | omega)) (lv_sub hl [0, 5, 6, 1, 7, 8, 9] rfl)
          exact lp_73770 13 0 x_73645 ls (⟨by decide, by decide⟩ : 0 ≤ (0 : Int32).toInt ∧ (0 : Int32).toInt ≤ 12) ⟨rfl, hr73646_0.1, by have z_0 := tk_0; (first | (clear h_p1 h_n_nodes h_x_73643 c_73647_i h_73649; omega) | omega)⟩ (by decide) (lv_sub hl [0, 1, 2, 3, 4, 5, 6] rfl)
  exact lp_73646 13 0 (-1) p1 ls (⟨by decide, by decide⟩ : 0 ≤ (0 : Int32).toInt ∧ (0 : Int32).toInt ≤ 12) ⟨rfl, fun h9 => absurd h9 (by decide), fun _ => tk_m1⟩ (by decide) (lv_sub hl [0, 1, 2, 3, 4, 5] rfl)
theorem qw_511 : Cond.initialized RX5 ∈ wsL_law := tseg_1 (by decide +kernel) (List.mem_of_getElem? (i := 11) (by decide +kernel))
theorem qw_517 : Cond.fieldLink RX0 12 "ChanceRings$Course" "equations" "LChanceRings$Equations;" ∈ wsL_law := tseg_2 (by decide +kernel) (List.mem_of_getElem? (i := 52) (by decide +kernel))
