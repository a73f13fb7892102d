theorem qw_862 : Cond.classLink RX11 135 "java/util/NoSuchElementException" ∈ wsL_law := tseg_4 (by decide +kernel) (List.mem_of_getElem? (i := 236) (by decide +kernel))
theorem qw_863 : Cond.initialized "java/util/NoSuchElementException" ∈ wsL_law := tseg_1 (by decide +kernel) (List.mem_of_getElem? (i := 22) (by decide +kernel))
theorem qw_868 : Cond.fieldLink RX11 96 "ChanceRings" "stoppedWorth" "LChanceRings$Values;" ∈ wsL_law := tseg_2 (by decide +kernel) (List.mem_of_getElem? (i := 155) (by decide +kernel))
theorem qw_869 : Cond.fieldLink RX11 93 "ChanceRings" "stoppedWays" "[I" ∈ wsL_law := tseg_2 (by decide +kernel) (List.mem_of_getElem? (i := 154) (by decide +kernel))
theorem qw_871 : Cond.fieldLink RX11 99 "ChanceRings" "withinWorth" "LChanceRings$Values;" ∈ wsL_law := tseg_2 (by decide +kernel) (List.mem_of_getElem? (i := 157) (by decide +kernel))
theorem dX11_node_0 : decode cX11_node 0 = .ok (.aload_n 0, 1) := by decide +kernel
theorem dX11_node_1 : decode cX11_node 1 = .ok (.getfield 19, 3) := by decide +kernel
theorem dX11_node_4 : decode cX11_node 4 = .ok (.iload_n 1, 1) := by decide +kernel
theorem dX11_node_5 : decode cX11_node 5 = .ok (.invokevirtual 131, 3) := by decide +kernel
theorem dX11_node_8 : decode cX11_node 8 = .ok (.ifCond .eq 12, 3) := by decide +kernel
theorem dX11_node_11 : decode cX11_node 11 = .ok (.iload_n 2, 1) := by decide +kernel
theorem dX11_node_12 : decode cX11_node 12 = .ok (.ifCond .lt 8, 3) := by decide +kernel
theorem dX11_node_15 : decode cX11_node 15 = .ok (.iload_n 2, 1) := by decide +kernel
theorem dX11_node_16 : decode cX11_node 16 = .ok (.iconst 3, 1) := by decide +kernel
theorem dX11_node_17 : decode cX11_node 17 = .ok (.if_icmp .le 11, 3) := by decide +kernel
theorem dX11_node_20 : decode cX11_node 20 = .ok (.new 135, 3) := by decide +kernel
theorem dX11_node_23 : decode cX11_node 23 = .ok (.dup, 1) := by decide +kernel
theorem dX11_node_24 : decode cX11_node 24 = .ok (.invokespecial 137, 3) := by decide +kernel
theorem dX11_node_27 : decode cX11_node 27 = .ok (.athrow, 1) := by decide +kernel
theorem dX11_node_28 : decode cX11_node 28 = .ok (.iload_n 2, 1) := by decide +kernel
theorem dX11_node_29 : decode cX11_node 29 = .ok (.tableswitch 73 0 2 #[27, 37, 63], 27) := by decide +kernel
theorem dX11_node_56 : decode cX11_node 56 = .ok (.aload_n 0, 1) := by decide +kernel
theorem dX11_node_57 : decode cX11_node 57 = .ok (.getfield 19, 3) := by decide +kernel
theorem dX11_node_60 : decode cX11_node 60 = .ok (.getfield 138, 3) := by decide +kernel
theorem dX11_node_63 : decode cX11_node 63 = .ok (.iload_n 1, 1) := by decide +kernel
theorem dX11_node_64 : decode cX11_node 64 = .ok (.iaload, 1) := by decide +kernel
theorem dX11_node_65 : decode cX11_node 65 = .ok (.ireturn, 1) := by decide +kernel
theorem dX11_node_66 : decode cX11_node 66 = .ok (.aload_n 0, 1) := by decide +kernel
theorem dX11_node_67 : decode cX11_node 67 = .ok (.getfield 19, 3) := by decide +kernel
theorem dX11_node_70 : decode cX11_node 70 = .ok (.getfield 138, 3) := by decide +kernel
theorem dX11_node_73 : decode cX11_node 73 = .ok (.iload_n 1, 1) := by decide +kernel
theorem dX11_node_74 : decode cX11_node 74 = .ok (.iaload, 1) := by decide +kernel
theorem dX11_node_75 : decode cX11_node 75 = .ok (.ifCond .ne 15, 3) := by decide +kernel
theorem dX11_node_78 : decode cX11_node 78 = .ok (.aload_n 0, 1) := by decide +kernel
theorem dX11_node_79 : decode cX11_node 79 = .ok (.getfield 19, 3) := by decide +kernel
theorem dX11_node_82 : decode cX11_node 82 = .ok (.getfield 141, 3) := by decide +kernel
theorem dX11_node_85 : decode cX11_node 85 = .ok (.iload_n 1, 1) := by decide +kernel
theorem dX11_node_86 : decode cX11_node 86 = .ok (.iaload, 1) := by decide +kernel
theorem dX11_node_87 : decode cX11_node 87 = .ok (.goto 4, 3) := by decide +kernel
theorem dX11_node_90 : decode cX11_node 90 = .ok (.iconst (-1), 1) := by decide +kernel
theorem dX11_node_91 : decode cX11_node 91 = .ok (.ireturn, 1) := by decide +kernel
theorem dX11_node_92 : decode cX11_node 92 = .ok (.aload_n 0, 1) := by decide +kernel
theorem dX11_node_93 : decode cX11_node 93 = .ok (.getfield 19, 3) := by decide +kernel
theorem dX11_node_96 : decode cX11_node 96 = .ok (.getfield 144, 3) := by decide +kernel
theorem dX11_node_99 : decode cX11_node 99 = .ok (.iload_n 1, 1) := by decide +kernel
theorem dX11_node_100 : decode cX11_node 100 = .ok (.iaload, 1) := by decide +kernel
theorem dX11_node_101 : decode cX11_node 101 = .ok (.ireturn, 1) := by decide +kernel
theorem dX11_node_102 : decode cX11_node 102 = .ok (.aload_n 0, 1) := by decide +kernel
theorem dX11_node_103 : decode cX11_node 103 = .ok (.getfield 19, 3) := by decide +kernel
theorem dX11_node_106 : decode cX11_node 106 = .ok (.getfield 147, 3) := by decide +kernel
theorem dX11_node_109 : decode cX11_node 109 = .ok (.iload_n 1, 1) := by decide +kernel
theorem dX11_node_110 : decode cX11_node 110 = .ok (.iaload, 1) := by decide +kernel
theorem dX11_node_111 : decode cX11_node 111 = .ok (.ireturn, 1) := by decide +kernel
theorem dX11_way_0 : decode cX11_way 0 = .ok (.aload_n 0, 1) := by decide +kernel
theorem dX11_way_1 : decode cX11_way 1 = .ok (.getfield 19, 3) := by decide +kernel
theorem dX11_way_4 : decode cX11_way 4 = .ok (.iload_n 1, 1) := by decide +kernel
theorem dX11_way_5 : decode cX11_way 5 = .ok (.iload_n 2, 1) := by decide +kernel
theorem dX11_way_6 : decode cX11_way 6 = .ok (.invokevirtual 150, 3) := by decide +kernel
theorem dX11_way_9 : decode cX11_way 9 = .ok (.ifCond .eq 12, 3) := by decide +kernel
theorem dX11_way_12 : decode cX11_way 12 = .ok (.iload_n 3, 1) := by decide +kernel
theorem dX11_way_13 : decode cX11_way 13 = .ok (.ifCond .lt 8, 3) := by decide +kernel
theorem dX11_way_16 : decode cX11_way 16 = .ok (.iload_n 3, 1) := by decide +kernel
theorem dX11_way_17 : decode cX11_way 17 = .ok (.iconst 1, 1) := by decide +kernel
theorem dX11_way_18 : decode cX11_way 18 = .ok (.if_icmp .le 11, 3) := by decide +kernel
theorem dX11_way_21 : decode cX11_way 21 = .ok (.new 135, 3) := by decide +kernel
theorem dX11_way_24 : decode cX11_way 24 = .ok (.dup, 1) := by decide +kernel
theorem dX11_way_25 : decode cX11_way 25 = .ok (.invokespecial 137, 3) := by decide +kernel
theorem dX11_way_28 : decode cX11_way 28 = .ok (.athrow, 1) := by decide +kernel
theorem dX11_way_29 : decode cX11_way 29 = .ok (.iload_n 3, 1) := by decide +kernel
theorem dX11_way_30 : decode cX11_way 30 = .ok (.ifCond .ne 15, 3) := by decide +kernel
theorem dX11_way_33 : decode cX11_way 33 = .ok (.aload_n 0, 1) := by decide +kernel
theorem dX11_way_34 : decode cX11_way 34 = .ok (.getfield 19, 3) := by decide +kernel
theorem dX11_way_37 : decode cX11_way 37 = .ok (.iload_n 1, 1) := by decide +kernel
theorem dX11_way_38 : decode cX11_way 38 = .ok (.iload_n 2, 1) := by decide +kernel
theorem dX11_way_39 : decode cX11_way 39 = .ok (.invokevirtual 154, 3) := by decide +kernel
theorem dX11_way_42 : decode cX11_way 42 = .ok (.goto 12, 3) := by decide +kernel
theorem dX11_way_45 : decode cX11_way 45 = .ok (.aload_n 0, 1) := by decide +kernel
theorem dX11_way_46 : decode cX11_way 46 = .ok (.getfield 19, 3) := by decide +kernel
theorem dX11_way_49 : decode cX11_way 49 = .ok (.iload_n 1, 1) := by decide +kernel
theorem dX11_way_50 : decode cX11_way 50 = .ok (.iload_n 2, 1) := by decide +kernel
theorem dX11_way_51 : decode cX11_way 51 = .ok (.invokevirtual 158, 3) := by decide +kernel
theorem dX11_way_54 : decode cX11_way 54 = .ok (.ireturn, 1) := by decide +kernel
set_option maxHeartbeats 4000000 in
set_option maxRecDepth 100000 in
theorem c_X11_node (l : Launch) (hst : l.stackTraces = false) (D : va_G) (g : Nat → ClassId) (sz : Nat) (x : Nat) (p0 : Int32) (p1 : Int32) (tp : Nat) (n : Nat) (d : Nat) (x_images : Nat) (x_kept : Nat) (rd : Nat) (st : Nat) (tl : Nat) (rg : Nat) (sv : Nat) (oc : Nat) (x_tried : Nat) (lf : Nat) (xlk : Int32) (x_sw : Nat) (sww : Nat) (xsb : Int32) (wi : Nat) (n_nodes : Int32) (n_kind : Nat) (n_pay : Nat) (n_name : Nat) (n_ways : Nat) (n_held : Nat) (n_targets : Nat) (n_weights : Nat) (n_fkind : Nat → Int32) (n_fpay : Nat → Int32) (n_fname : Nat → Int32) (n_fways : Nat → Int32) (n_fheld : Nat → Int32) (n_ftargets : Nat → Int32) (n_fweights : Nat → Int32) (h_xlk : 0 ≤ (xlk : Int32).toInt ∧ (xlk : Int32).toInt ≤ 1) (h_n_nodes : 0 ≤ (n_nodes : Int32).toInt ∧ (n_nodes : Int32).toInt ≤ 12) (h_n_fkind : ∀ j : Nat, 0 ≤ (n_fkind j).toInt ∧ (n_fkind j).toInt ≤ 3) (h_n_fways : ∀ j : Nat, 0 ≤ (n_fways j).toInt ∧ (n_fways j).toInt ≤ 3) (h_n_fheld : ∀ j : Nat, (-1) ≤ (n_fheld j).toInt ∧ (n_fheld j).toInt ≤ 2) (h_n_ftargets : ∀ j : Nat, 0 ≤ (n_ftargets j).toInt ∧ (n_ftargets j).toInt ≤ 11) : vx_Met l yX11_node (.code yX11_node cX11_node 3 (some .int) :: wsL_law) ({ frames := 6, cells := 1, slots := 6, locals := 90 }) (va_Pc [.ref x, .int p0, .int p1] (fun U => U.heap.size = sz ∧ va_P D vwCl [(x, .inr (11, [.ref tp, .ref n, .ref d, .ref x_images, .ref x_kept, .ref rd, .ref st, .ref tl, .ref rg, .ref sv, .ref oc, .ref x_tried, .ref lf, .int xlk, .ref x_sw, .ref sww, .int xsb, .ref wi])), (n, .inr (2, [.int n_nodes, .ref n_kind, .ref n_pay, .ref n_name, .ref n_ways, .ref n_held, .ref n_targets, .ref n_weights])), (n_kind, .inl (g 0, 12, .inl n_fkind)), (n_pay, .inl (g 0, 12, .inl n_fpay)), (n_name, .inl (g 0, 12, .inl n_fname)), (n_ways, .inl (g 0, 12, .inl n_fways)), (n_held, .inl (g 0, 12, .inl n_fheld)), (n_targets, .inl (g 0, 36, .inl n_ftargets)), (n_weights, .inl (g 0, 36, .inl n_fweights))] U.heap ∧ va_K D vwCl (TY g) U ∧ va_D (fun _ => True) [(x, .inr (11, [.ref tp, .ref n, .ref d, .ref x_images, .ref x_kept, .ref rd, .ref st, .ref tl, .ref rg, .ref sv, .ref oc, .ref x_tried, .ref lf, .int xlk, .ref x_sw, .ref sww, .int xsb, .ref wi])), (n, .inr (2, [.int n_nodes, .ref n_kind, .ref n_pay, .ref n_name, .ref n_ways, .ref n_held, .ref n_targets, .ref n_weights])), (n_kind, .inl (g 0, 12, .inl n_fkind)), (n_pay, .inl (g 0, 12, .inl n_fpay)), (n_name, .inl (g 0, 12, .inl n_fname)), (n_ways, .inl (g 0, 12, .inl n_fways)), (n_held, .inl (g 0, 12, .inl n_fheld)), (n_targets, .inl (g 0, 36, .inl n_ftargets)), (n_weights, .inl (g 0, 36, .inl n_fweights))] ∧ ZT (va_A [(x, .inr (11, [.ref tp, .ref n, .ref d, .ref x_images, .ref x_kept, .ref rd, .ref st, .ref tl, .ref rg, .ref sv, .ref oc, .ref x_tried, .ref lf, .int xlk, .ref x_sw, .ref sww, .int xsb, .ref wi])), (n, .inr (2, [.int n_nodes, .ref n_kind, .ref n_pay, .ref n_name, .ref n_ways, .ref n_held, .ref n_targets, .ref n_weights])), (n_kind, .inl (g 0, 12, .inl n_fkind)), (n_pay, .inl (g 0, 12, .inl n_fpay)), (n_name, .inl (g 0, 12, .inl n_fname)), (n_ways, .inl (g 0, 12, .inl n_fways)), (n_held, .inl (g 0, 12, .inl n_fheld)), (n_targets, .inl (g 0, 36, .inl n_ftargets)), (n_weights, .inl (g 0, 36, .inl n_fweights))] sz) U U.heap)) (va_Qi (fun r (_ : Unit) => (True) ∧ (((0 ≤ (p0 : Int32).toInt ∧ (p0 : Int32).toInt < (n_nodes : Int32).toInt) ∧ 0 ≤ (p1 : Int32).toInt ∧ (p1 : Int32).toInt ≤ 3) ∧ ((p1 : Int32).toInt = 0 → (r : Int32).toInt = (n_fkind (p0 : Int32).toInt.toNat).toInt) ∧ ((p1 : Int32).toInt = 1 → ((n_fkind (p0 : Int32).toInt.toNat).toInt = 0 → (r : Int32).toInt = (n_fpay (p0 : Int32).toInt.toNat).toInt) ∧ (¬ (n_fkind (p0 : Int32).toInt.toNat).toInt = 0 → (r : Int32).toInt = -1)) ∧ ((p1 : Int32).toInt = 2 → (r : Int32).toInt = (n_fways (p0 : Int32).toInt.toNat).toInt) ∧ ((p1 : Int32).toInt = 3 → (r : Int32).toInt = (n_fheld (p0 : Int32).toInt.toNat).toInt))) (fun _ t => va_P D vwCl [(x, .inr (11, [.ref tp, .ref n, .ref d, .ref x_images, .ref x_kept, .ref rd, .ref st, .ref tl, .ref rg, .ref sv, .ref oc, .ref x_tried, .ref lf, .int xlk, .ref x_sw, .ref sww, .int xsb, .ref wi])), (n, .inr (2, [.int n_nodes, .ref n_kind, .ref n_pay, .ref n_name, .ref n_ways, .ref n_held, .ref n_targets, .ref n_weights])), (n_kind, .inl (g 0, 12, .inl n_fkind)), (n_pay, .inl (g 0, 12, .inl n_fpay)), (n_name, .inl (g 0, 12, .inl n_fname)), (n_ways, .inl (g 0, 12, .inl n_fways)), (n_held, .inl (g 0, 12, .inl n_fheld)), (n_targets, .inl (g 0, 36, .inl n_ftargets)), (n_weights, .inl (g 0, 36, .inl n_fweights))] t.heap ∧ va_D (va_A [(x, .inr (11, [.ref tp, .ref n, .ref d, .ref x_images, .ref x_kept, .ref rd, .ref st, .ref tl, .ref rg, .ref sv, .ref oc, .ref x_tried, .ref lf, .int xlk, .ref x_sw, .ref sww, .int xsb, .ref wi])), (n, .inr (2, [.int n_nodes, .ref n_kind, .ref n_pay, .ref n_name, .ref n_ways, .ref n_held, .ref n_targets, .ref n_weights])), (n_kind, .inl (g 0, 12, .inl n_fkind)), (n_pay, .inl (g 0, 12, .inl n_fpay)), (n_name, .inl (g 0, 12, .inl n_fname)), (n_ways, .inl (g 0, 12, .inl n_fways)), (n_held, .inl (g 0, 12, .inl n_fheld)), (n_targets, .inl (g 0, 36, .inl n_ftargets)), (n_weights, .inl (g 0, 36, .inl n_fweights))] sz) [(x, .inr (11, [.ref tp, .ref n, .ref d, .ref x_images, .ref x_kept, .ref rd, .ref st, .ref tl, .ref rg, .ref sv, .ref oc, .ref x_tried, .ref lf, .int xlk, .ref x_sw, .ref sww, .int xsb, .ref wi])), (n, .inr (2, [.int n_nodes, .ref n_kind, .ref n_pay, .ref n_name, .ref n_ways, .ref n_held, .ref n_targets, .ref n_weights])), (n_kind, .inl (g 0, 12, .inl n_fkind)), (n_pay, .inl (g 0, 12, .inl n_fpay)), (n_name, .inl (g 0, 12, .inl n_fname)), (n_ways, .inl (g 0, 12, .inl n_fways)), (n_held, .inl (g 0, 12, .inl n_fheld)), (n_targets, .inl (g 0, 36, .inl n_ftargets)), (n_weights, .inl (g 0, 36, .inl n_fweights))]) (va_A [(x, .inr (11, [.ref tp, .ref n, .ref d, .ref x_images, .ref x_kept, .ref rd, .ref st, .ref tl, .ref rg, .ref sv, .ref oc, .ref x_tried, .ref lf, .int xlk, .ref x_sw, .ref sww, .int xsb, .ref wi])), (n, .inr (2, [.int n_nodes, .ref n_kind, .ref n_pay, .ref n_name, .ref n_ways, .ref n_held, .ref n_targets, .ref n_weights])), (n_kind, .inl (g 0, 12, .inl n_fkind)), (n_pay, .inl (g 0, 12, .inl n_fpay)), (n_name, .inl (g 0, 12, .inl n_fname)), (n_ways, .inl (g 0, 12, .inl n_fways)), (n_held, .inl (g 0, 12, .inl n_fheld)), (n_targets, .inl (g 0, 36, .inl n_ftargets)), (n_weights, .inl (g 0, 36, .inl n_fweights))] sz)) (vx_X (fun (_ : Unit) => True) (fun E _ t => E = "java/util/NoSuchElementException" ∧ (¬ ((0 ≤ (p0 : Int32).toInt ∧ (p0 : Int32).toInt < (n_nodes : Int32).toInt) ∧ 0 ≤ (p1 : Int32).toInt ∧ (p1 : Int32).toInt ≤ 3)) ∧ va_P D vwCl [(x, .inr (11, [.ref tp, .ref n, .ref d, .ref x_images, .ref x_kept, .ref rd, .ref st, .ref tl, .ref rg, .ref sv, .ref oc, .ref x_tried, .ref lf, .int xlk, .ref x_sw, .ref sww, .int xsb, .ref wi])), (n, .inr (2, [.int n_nodes, .ref n_kind, .ref n_pay, .ref n_name, .ref n_ways, .ref n_held, .ref n_targets, .ref n_weights])), (n_kind, .inl (g 0, 12, .inl n_fkind)), (n_pay, .inl (g 0, 12, .inl n_fpay)), (n_name, .inl (g 0, 12, .inl n_fname)), (n_ways, .inl (g 0, 12, .inl n_fways)), (n_held, .inl (g 0, 12, .inl n_fheld)), (n_targets, .inl (g 0, 36, .inl n_ftargets)), (n_weights, .inl (g 0, 36, .inl n_fweights))] t.heap ∧ va_D (va_A [(x, .inr (11, [.ref tp, .ref n, .ref d, .ref x_images, .ref x_kept, .ref rd, .ref st, .ref tl, .ref rg, .ref sv, .ref oc, .ref x_tried, .ref lf, .int xlk, .ref x_sw, .ref sww, .int xsb, .ref wi])), (n, .inr (2, [.int n_nodes, .ref n_kind, .ref n_pay, .ref n_name, .ref n_ways, .ref n_held, .ref n_targets, .ref n_weights])), (n_kind, .inl (g 0, 12, .inl n_fkind)), (n_pay, .inl (g 0, 12, .inl n_fpay)), (n_name, .inl (g 0, 12, .inl n_fname)), (n_ways, .inl (g 0, 12, .inl n_fways)), (n_held, .inl (g 0, 12, .inl n_fheld)), (n_targets, .inl (g 0, 36, .inl n_ftargets)), (n_weights, .inl (g 0, 36, .inl n_fweights))] sz) [(x, .inr (11, [.ref tp, .ref n, .ref d, .ref x_images, .ref x_kept, .ref rd, .ref st, .ref tl, .ref rg, .ref sv, .ref oc, .ref x_tried, .ref lf, .int xlk, .ref x_sw, .ref sww, .int xsb, .ref wi])), (n, .inr (2, [.int n_nodes, .ref n_kind, .ref n_pay, .ref n_name, .ref n_ways, .ref n_held, .ref n_targets, .ref n_weights])), (n_kind, .inl (g 0, 12, .inl n_fkind)), (n_pay, .inl (g 0, 12, .inl n_fpay)), (n_name, .inl (g 0, 12, .inl n_fname)), (n_ways, .inl (g 0, 12, .inl n_fways)), (n_held, .inl (g 0, 12, .inl n_fheld)), (n_targets, .inl (g 0, 36, .inl n_ftargets)), (n_weights, .inl (g 0, 36, .inl n_fweights))]) (va_A [(x, .inr (11, [.ref tp, .ref n, .ref d, .ref x_images, .ref x_kept, .ref rd, .ref st, .ref tl, .ref rg, .ref sv, .ref oc, .ref x_tried, .ref lf, .int xlk, .ref x_sw, .ref sww, .int xsb, .ref wi])), (n, .inr (2, [.int n_nodes, .ref n_kind, .ref n_pay, .ref n_name, .ref n_ways, .ref n_held, .ref n_targets, .ref n_weights])), (n_kind, .inl (g 0, 12, .inl n_fkind)), (n_pay, .inl (g 0, 12, .inl n_fpay)), (n_name, .inl (g 0, 12, .inl n_fname)), (n_ways, .inl (g 0, 12, .inl n_fways)), (n_held, .inl (g 0, 12, .inl n_fheld)), (n_targets, .inl (g 0, 36, .inl n_ftargets)), (n_weights, .inl (g 0, 36, .inl n_fweights))] sz)) 1 6 (va_A [(x, .inr (11, [.ref tp, .ref n, .ref d, .ref x_images, .ref x_kept, .ref rd, .ref st, .ref tl, .ref rg, .ref sv, .ref oc, .ref x_tried, .ref lf, .int xlk, .ref x_sw, .ref sww, .int xsb, .ref wi])), (n, .inr (2, [.int n_nodes, .ref n_kind, .ref n_pay, .ref n_name, .ref n_ways, .ref n_held, .ref n_targets, .ref n_weights])), (n_kind, .inl (g 0, 12, .inl n_fkind)), (n_pay, .inl (g 0, 12, .inl n_fpay)), (n_name, .inl (g 0, 12, .inl n_fname)), (n_ways, .inl (g 0, 12, .inl n_fways)), (n_held, .inl (g 0, 12, .inl n_fheld)), (n_targets, .inl (g 0, 36, .inl n_ftargets)), (n_weights, .inl (g 0, 36, .inl n_fweights))] sz) := by
  refine vx_ofW (cc := cX11_node) (maxL := 3) (ret := (some .int)) (by decide) rfl ?_
  intro p e s m args below meth c s₁ B hml htab hv
  obtain ⟨ha, hsz, hP, hK, hD0, hZ⟩ := hv
  have hx := B.exec
  have hb := B.bytes
  have hr := B.returns
  have hts0 := atoms_spec (ws := (.code yX11_node cX11_node 3 (some .int) :: wsL_law)) B.pre
  have hts : ∀ w ∈ wsL_law, w.before args s = true := fun w h => hts0 w (List.mem_cons_of_mem _ h)
  have hown : s.vm.findClass RX11 = some m.cls := findClass_of_methodNamed B.named
  have hlocks := B.notSynchronized
  subst hsz
  have hD := hD0.self (sz := s.heap.size)
  generalize hAe : va_A [(x, .inr (11, [.ref tp, .ref n, .ref d, .ref x_images, .ref x_kept, .ref rd, .ref st, .ref tl, .ref rg, .ref sv, .ref oc, .ref x_tried, .ref lf, .int xlk, .ref x_sw, .ref sww, .int xsb, .ref wi])), (n, .inr (2, [.int n_nodes, .ref n_kind, .ref n_pay, .ref n_name, .ref n_ways, .ref n_held, .ref n_targets, .ref n_weights])), (n_kind, .inl (g 0, 12, .inl n_fkind)), (n_pay, .inl (g 0, 12, .inl n_fpay)), (n_name, .inl (g 0, 12, .inl n_fname)), (n_ways, .inl (g 0, 12, .inl n_fways)), (n_held, .inl (g 0, 12, .inl n_fheld)), (n_targets, .inl (g 0, 36, .inl n_ftargets)), (n_weights, .inl (g 0, 36, .inl n_fweights))] s.heap.size = A at hD hZ ⊢
  have hA : ∀ q : Nat, s.heap.size ≤ q → A q := fun q h => by rw [← hAe]; exact Or.inr h
  have hS : va_S A s.heap s.heap [] := va_S.rf
  have hP : va_P D vwCl [(x, .inr (11, [.ref tp, .ref n, .ref d, .ref x_images, .ref x_kept, .ref rd, .ref st, .ref tl, .ref rg, .ref sv, .ref oc, .ref x_tried, .ref lf, .int xlk, .ref x_sw, .ref sww, .int xsb, .ref wi])), (n, .inr (2, [.int n_nodes, .ref n_kind, .ref n_pay, .ref n_name, .ref n_ways, .ref n_held, .ref n_targets, .ref n_weights])), (n_kind, .inl (g 0, 12, .inl n_fkind)), (n_pay, .inl (g 0, 12, .inl n_fpay)), (n_name, .inl (g 0, 12, .inl n_fname)), (n_ways, .inl (g 0, 12, .inl n_fways)), (n_held, .inl (g 0, 12, .inl n_fheld)), (n_targets, .inl (g 0, 36, .inl n_ftargets)), (n_weights, .inl (g 0, 36, .inl n_fweights))] s.heap := hP
  refine W.eq (g2 := entryFrame m ([.ref x, .int p0, .int p1] : List Value).toArray 3) (by rw [ha]) ?_
  have hl := lv_entry ([.ref x, .int p0, .int p1]) (n := 3) (Nat.le_of_ble_eq_true rfl)
  rw [lg_entry_eq]
  generalize (lg_sl ([.ref x, .int p0, .int p1]) ++ List.replicate (3 - (lg_sl ([.ref x, .int p0, .int p1])).length) Slot.unset).toArray = ls at hl ⊢
  have hl : lv_has ls 3 [(0, .ref x), (1, .int p0), (2, .int p1)] := hl
  refine lv_aload_n hx hb dX11_node_0 rfl (lv_at hl 0 rfl) ?_
  refine va_get (D := D) (ci := 11) (v := .ref n) (C := RX11) (T := TX11) (N := 18) hx hb hts inlX11 hown hK hP 0 rfl rfl 1 (by decide) (hts (Cond.fieldLink RX11 19 "ChanceRings" "net" "LChanceRings$Net;") qw_719) (fun _ h9 => h9) rfl dX11_node_1 ?_
  refine lv_iload_n hx hb dX11_node_4 rfl (lv_at hl 1 rfl) ?_
  have hPc := hP.sub (ws' := [(n, .inr (2, [.int n_nodes, .ref n_kind, .ref n_pay, .ref n_name, .ref n_ways, .ref n_held, .ref n_targets, .ref n_weights]))]) [1] rfl
  refine vp_callSi (va_Run.run (va_runV (As := [.int p0]) (rest := []) ⟨hx, hb, hml, hown, hts⟩ (c_X2_hasN l D g n p0 n_nodes n_kind n_pay n_name n_ways n_held n_targets n_weights (tr_w h_n_nodes (by decide) (by decide))) (cwV 1 hts (tz_gV qw_748 qw_329 qw_330 qw_322 qw_331) rfl rfl rfl (by decide +kernel) ⟨Nat.le_of_ble_eq_true rfl, Nat.le_of_ble_eq_true rfl⟩) ⟨tz_blS, va_recv hK hPc (ci := 2) (q0 := 0) rfl rfl, tz_preS hPc hK⟩ rfl rfl hl.1 rfl (lv_room (Nat.le_of_ble_eq_true rfl)) dX11_node_5 ⟨Nat.le_of_ble_eq_true rfl, Nat.le_of_ble_eq_true rfl⟩)) (fun r_117511 hw => ?_)
  have hw_117512 : 0 ≤ (r_117511 : Int32).toInt ∧ (r_117511 : Int32).toInt ≤ 1 := hw.1
  have hw_117512_p0 : Hide (¬ (r_117511 : Int32).toInt = 0 → (0 ≤ (p0 : Int32).toInt ∧ (p0 : Int32).toInt < (n_nodes : Int32).toInt)) := hw.2.1
  have hw_117512_p1 : Hide ((r_117511 : Int32).toInt = 0 → ¬ (0 ≤ (p0 : Int32).toInt ∧ (p0 : Int32).toInt < (n_nodes : Int32).toInt)) := hw.2.2
  refine lv_if_eq (tgt := 20) hx hb dX11_node_8 (by decide) (fun c_117513 => ?_) (fun c_117513 => ?_)
  · skip
    have kk_0 := tk_0
    have c_117513_i : (r_117511 : Int32).toInt = (0 : Int32).toInt := congrArg Int32.toInt c_117513
    have hw_117512_p1_u := (hw_117512_p1).get (c_117513_i.trans tk_0)
    have h_117514 : 0 ≤ (r_117511 : Int32).toInt ∧ (r_117511 : Int32).toInt ≤ 0 := nr_eq_l hw_117512 (⟨by decide, by decide⟩ : 0 ≤ (0 : Int32).toInt ∧ (0 : Int32).toInt ≤ 0) c_117513_i (by decide) (by decide)
    have hP9 := hP.sub (ws' := [(x, .inr (11, [.ref tp, .ref n, .ref d, .ref x_images, .ref x_kept, .ref rd, .ref st, .ref tl, .ref rg, .ref sv, .ref oc, .ref x_tried, .ref lf, .int xlk, .ref x_sw, .ref sww, .int xsb, .ref wi])), (n, .inr (2, [.int n_nodes, .ref n_kind, .ref n_pay, .ref n_name, .ref n_ways, .ref n_held, .ref n_targets, .ref n_weights])), (n_kind, .inl (g 0, 12, .inl n_fkind)), (n_pay, .inl (g 0, 12, .inl n_fpay)), (n_name, .inl (g 0, 12, .inl n_fname)), (n_ways, .inl (g 0, 12, .inl n_fways)), (n_held, .inl (g 0, 12, .inl n_fheld)), (n_targets, .inl (g 0, 36, .inl n_ftargets)), (n_weights, .inl (g 0, 36, .inl n_fweights))]) [0, 1, 2, 3, 4, 5, 6, 7, 8] rfl
    have hD9 := hD.sub (ws' := [(x, .inr (11, [.ref tp, .ref n, .ref d, .ref x_images, .ref x_kept, .ref rd, .ref st, .ref tl, .ref rg, .ref sv, .ref oc, .ref x_tried, .ref lf, .int xlk, .ref x_sw, .ref sww, .int xsb, .ref wi])), (n, .inr (2, [.int n_nodes, .ref n_kind, .ref n_pay, .ref n_name, .ref n_ways, .ref n_held, .ref n_targets, .ref n_weights])), (n_kind, .inl (g 0, 12, .inl n_fkind)), (n_pay, .inl (g 0, 12, .inl n_fpay)), (n_name, .inl (g 0, 12, .inl n_fname)), (n_ways, .inl (g 0, 12, .inl n_fways)), (n_held, .inl (g 0, 12, .inl n_fheld)), (n_targets, .inl (g 0, 36, .inl n_ftargets)), (n_weights, .inl (g 0, 36, .inl n_fweights))]) [0, 1, 2, 3, 4, 5, 6, 7, 8] (by decide) rfl
    exact vx_throw0 hx hb hst hown (by decide +kernel) (by decide +kernel) (hts (Cond.classLink RX11 135 "java/util/NoSuchElementException") qw_862) (hts (Cond.initialized "java/util/NoSuchElementException") qw_863) (tx_at hts hZ) tx_good hZ.1 hZ.2.1 hS (by rw [hml]; exact hl.1) dX11_node_20 dX11_node_23 dX11_node_24 dX11_node_27 (fun x hx => (htab x hx).elim) (Nat.le_of_ble_eq_true rfl) (Nat.le_of_ble_eq_true rfl) (Nat.le_of_ble_eq_true rfl) (Nat.le_of_ble_eq_true rfl) hlocks (fun t _ hz hk => ⟨(), trivial, ⟨rfl, (by have z_0 := tk_0; have z_1 := tk_1; have z_2 := tk_2; have z_3 := tk_3; have z_4 := tk_4; have z_9 := tk_9; have z_m := tk_m1; (first | (clear h_xlk h_n_nodes hw_117512 c_117513_i h_117514; omega) | omega)), tx_keepP hP9 hk, hD9⟩, tx_F hS hz hk⟩) hS.2.2 (Nat.le_of_ble_eq_true rfl) (Nat.le_of_ble_eq_true rfl)
  · skip
    have kk_0 := tk_0
    have c_117513_i : ¬ (r_117511 : Int32).toInt = (0 : Int32).toInt := (fun q => c_117513 (Int32.toInt_inj.mp q))
    have hw_117512_p0_u := (hw_117512_p0).get (fun q => c_117513_i (q.trans tk_0.symm))
    have h_117515 : 0 ≤ (p0 : Int32).toInt ∧ (p0 : Int32).toInt ≤ 11 := by (first | (clear h_xlk h_n_nodes hw_117512 c_117513_i; omega) | omega)
    have h_117516 : 1 ≤ (r_117511 : Int32).toInt ∧ (r_117511 : Int32).toInt ≤ 1 := nr_ne_l hw_117512 (⟨by decide, by decide⟩ : 0 ≤ (0 : Int32).toInt ∧ (0 : Int32).toInt ≤ 0) c_117513_i (by decide) (by decide)
    refine lv_iload_n hx hb dX11_node_11 rfl (lv_at hl 2 rfl) ?_
    refine lv_if_lt (tgt := 20) hx hb dX11_node_12 (by decide) (fun c_117517 => ?_) (fun c_117517 => ?_)
    · skip
      have c_117517_i := Int32.lt_iff_toInt_lt.mp c_117517
      have h_117518 : (-2147483648) ≤ (p1 : Int32).toInt ∧ (p1 : Int32).toInt ≤ (-1) := nr_lt_l (tr_any p1) (⟨by decide, by decide⟩ : 0 ≤ (0 : Int32).toInt ∧ (0 : Int32).toInt ≤ 0) c_117517_i (by decide) (by decide)
      have hP9 := hP.sub (ws' := [(x, .inr (11, [.ref tp, .ref n, .ref d, .ref x_images, .ref x_kept, .ref rd, .ref st, .ref tl, .ref rg, .ref sv, .ref oc, .ref x_tried, .ref lf, .int xlk, .ref x_sw, .ref sww, .int xsb, .ref wi])), (n, .inr (2, [.int n_nodes, .ref n_kind, .ref n_pay, .ref n_name, .ref n_ways, .ref n_held, .ref n_targets, .ref n_weights])), (n_kind, .inl (g 0, 12, .inl n_fkind)), (n_pay, .inl (g 0, 12, .inl n_fpay)), (n_name, .inl (g 0, 12, .inl n_fname)), (n_ways, .inl (g 0, 12, .inl n_fways)), (n_held, .inl (g 0, 12, .inl n_fheld)), (n_targets, .inl (g 0, 36, .inl n_ftargets)), (n_weights, .inl (g 0, 36, .inl n_fweights))]) [0, 1, 2, 3, 4, 5, 6, 7, 8] rfl
      have hD9 := hD.sub (ws' := [(x, .inr (11, [.ref tp, .ref n, .ref d, .ref x_images, .ref x_kept, .ref rd, .ref st, .ref tl, .ref rg, .ref sv, .ref oc, .ref x_tried, .ref lf, .int xlk, .ref x_sw, .ref sww, .int xsb, .ref wi])), (n, .inr (2, [.int n_nodes, .ref n_kind, .ref n_pay, .ref n_name, .ref n_ways, .ref n_held, .ref n_targets, .ref n_weights])), (n_kind, .inl (g 0, 12, .inl n_fkind)), (n_pay, .inl (g 0, 12, .inl n_fpay)), (n_name, .inl (g 0, 12, .inl n_fname)), (n_ways, .inl (g 0, 12, .inl n_fways)), (n_held, .inl (g 0, 12, .inl n_fheld)), (n_targets, .inl (g 0, 36, .inl n_ftargets)), (n_weights, .inl (g 0, 36, .inl n_fweights))]) [0, 1, 2, 3, 4, 5, 6, 7, 8] (by decide) rfl
      exact vx_throw0 hx hb hst hown (by decide +kernel) (by decide +kernel) (hts (Cond.classLink RX11 135 "java/util/NoSuchElementException") qw_862) (hts (Cond.initialized "java/util/NoSuchElementException") qw_863) (tx_at hts hZ) tx_good hZ.1 hZ.2.1 hS (by rw [hml]; exact hl.1) dX11_node_20 dX11_node_23 dX11_node_24 dX11_node_27 (fun x hx => (htab x hx).elim) (Nat.le_of_ble_eq_true rfl) (Nat.le_of_ble_eq_true rfl) (Nat.le_of_ble_eq_true rfl) (Nat.le_of_ble_eq_true rfl) hlocks (fun t _ hz hk => ⟨(), trivial, ⟨rfl, (by have z_0 := tk_0; have z_1 := tk_1; have z_2 := tk_2; have z_3 := tk_3; have z_4 := tk_4; have z_9 := tk_9; have z_m := tk_m1; (first | (clear h_xlk h_n_nodes hw_117512 c_117513_i h_117515 h_117516 c_117517_i h_117518; omega) | omega)), tx_keepP hP9 hk, hD9⟩, tx_F hS hz hk⟩) hS.2.2 (Nat.le_of_ble_eq_true rfl) (Nat.le_of_ble_eq_true rfl)
    · skip
      have c_117517_i := Int32.le_iff_toInt_le.mp (Int32.not_lt.mp c_117517)
      have h_117519 : 0 ≤ (p1 : Int32).toInt ∧ (p1 : Int32).toInt ≤ 2147483647 := nr_le_r (⟨by decide, by decide⟩ : 0 ≤ (0 : Int32).toInt ∧ (0 : Int32).toInt ≤ 0) (tr_any p1) c_117517_i (by decide) (by decide)
      refine lv_iload_n hx hb dX11_node_15 rfl (lv_at hl 2 rfl) ?_
      refine lv_iconst (v := 3) hx hb dX11_node_16 (by decide) ?_
      refine lv_icmp_le (tgt := 28) hx hb dX11_node_17 (by decide) (fun c_117520 => ?_) (fun c_117520 => ?_)
      · skip
        have kk_3 := tk_3
        have c_117520_i := Int32.le_iff_toInt_le.mp c_117520
        have h_117521 : 0 ≤ (p1 : Int32).toInt ∧ (p1 : Int32).toInt ≤ 3 := nr_le_l h_117519 (⟨by decide, by decide⟩ : 3 ≤ (3 : Int32).toInt ∧ (3 : Int32).toInt ≤ 3) c_117520_i (by decide) (by decide)
        refine lv_iload_n hx hb dX11_node_28 rfl (lv_at hl 2 rfl) ?_
        by_cases e_117523 : p1 = 0
        · skip
          have h_117524 : 0 ≤ (p1 : Int32).toInt ∧ (p1 : Int32).toInt ≤ 0 := by rw [e_117523]; exact ⟨by decide, by decide⟩
          refine lv_tableIn (off := 27) (tgt := 56) hx hb dX11_node_29 (by rw [e_117523]; decide) (by rw [e_117523]; decide) (by rw [e_117523]; decide) (by decide) ?_
          refine lv_aload_n hx hb dX11_node_56 rfl (lv_at hl 0 rfl) ?_
          refine va_get (D := D) (ci := 11) (v := .ref n) (C := RX11) (T := TX11) (N := 18) hx hb hts inlX11 hown hK hP 0 rfl rfl 1 (by decide) (hts (Cond.fieldLink RX11 19 "ChanceRings" "net" "LChanceRings$Net;") qw_719) (fun _ h9 => h9) rfl dX11_node_57 ?_
          refine va_get (D := D) (ci := 2) (v := .ref n_kind) (C := RX2) (T := TX2) (N := 8) hx hb hts inlX2 hown hK hP 1 rfl rfl 1 (by decide) (hts (Cond.fieldLink RX11 138 "ChanceRings$Net" "kind" "[I") qw_749) (fun _ h9 => h9) rfl dX11_node_60 ?_
          refine lv_iload_n hx hb dX11_node_63 rfl (lv_at hl 1 rfl) ?_
          refine va_iald hx hb hK hP 2 0 rfl rfl (tr_in h_117515 (by decide) (by decide)) dX11_node_64 ?_
          refine lv_topi (fun v_117525 v_117525_e => ?_)
          have h_v_117525 : 0 ≤ (v_117525 : Int32).toInt ∧ (v_117525 : Int32).toInt ≤ 3 := by rw [v_117525_e]; exact h_n_fkind _
          have g_v_117525 : v_117525 = n_fkind (p0.toInt.toNat) := v_117525_e.trans (congrArg n_fkind rfl)
          have gi_v_117525 := congrArg Int32.toInt g_v_117525
          refine W.widen (k := 1) (n := 6) (by decide) (by decide) ?_
          have hP9 := hP.sub (ws' := [(x, .inr (11, [.ref tp, .ref n, .ref d, .ref x_images, .ref x_kept, .ref rd, .ref st, .ref tl, .ref rg, .ref sv, .ref oc, .ref x_tried, .ref lf, .int xlk, .ref x_sw, .ref sww, .int xsb, .ref wi])), (n, .inr (2, [.int n_nodes, .ref n_kind, .ref n_pay, .ref n_name, .ref n_ways, .ref n_held, .ref n_targets, .ref n_weights])), (n_kind, .inl (g 0, 12, .inl n_fkind)), (n_pay, .inl (g 0, 12, .inl n_fpay)), (n_name, .inl (g 0, 12, .inl n_fname)), (n_ways, .inl (g 0, 12, .inl n_fways)), (n_held, .inl (g 0, 12, .inl n_fheld)), (n_targets, .inl (g 0, 36, .inl n_ftargets)), (n_weights, .inl (g 0, 36, .inl n_fweights))]) [0, 1, 2, 3, 4, 5, 6, 7, 8] rfl
          have hD9 := hD.sub (ws' := [(x, .inr (11, [.ref tp, .ref n, .ref d, .ref x_images, .ref x_kept, .ref rd, .ref st, .ref tl, .ref rg, .ref sv, .ref oc, .ref x_tried, .ref lf, .int xlk, .ref x_sw, .ref sww, .int xsb, .ref wi])), (n, .inr (2, [.int n_nodes, .ref n_kind, .ref n_pay, .ref n_name, .ref n_ways, .ref n_held, .ref n_targets, .ref n_weights])), (n_kind, .inl (g 0, 12, .inl n_fkind)), (n_pay, .inl (g 0, 12, .inl n_fpay)), (n_name, .inl (g 0, 12, .inl n_fname)), (n_ways, .inl (g 0, 12, .inl n_fways)), (n_held, .inl (g 0, 12, .inl n_fheld)), (n_targets, .inl (g 0, 36, .inl n_ftargets)), (n_weights, .inl (g 0, 36, .inl n_fweights))]) [0, 1, 2, 3, 4, 5, 6, 7, 8] (by decide) rfl
          exact vx_ret (W.iret (v := v_117525) hx hb hr (fun t ht hW => ⟨⟨v_117525, (), rfl, ⟨trivial, (by have z_0 := tk_0; have z_1 := tk_1; have z_2 := tk_2; have z_3 := tk_3; have z_4 := tk_4; have z_9 := tk_9; have z_m := tk_m1; (first | (clear h_xlk h_n_nodes hw_117512 c_117513_i h_117516 c_117517_i h_117519 c_117520_i h_117521 h_117524; omega) | omega))⟩, by rw [ht]; exact hP9, hD9⟩, hS.F ht⟩) hS.2.2 dX11_node_65)
        · have e_117523_n : ¬ (p1 : Int32).toInt = 0 := fun q => e_117523 (Int32.toInt_inj.mp (q.trans (by decide)))
          by_cases e_117526 : p1 = 1
          · skip
            have h_117527 : 1 ≤ (p1 : Int32).toInt ∧ (p1 : Int32).toInt ≤ 1 := by rw [e_117526]; exact ⟨by decide, by decide⟩
            refine lv_tableIn (off := 37) (tgt := 66) hx hb dX11_node_29 (by rw [e_117526]; decide) (by rw [e_117526]; decide) (by rw [e_117526]; decide) (by decide) ?_
            refine lv_aload_n hx hb dX11_node_66 rfl (lv_at hl 0 rfl) ?_
            refine va_get (D := D) (ci := 11) (v := .ref n) (C := RX11) (T := TX11) (N := 18) hx hb hts inlX11 hown hK hP 0 rfl rfl 1 (by decide) (hts (Cond.fieldLink RX11 19 "ChanceRings" "net" "LChanceRings$Net;") qw_719) (fun _ h9 => h9) rfl dX11_node_67 ?_
            refine va_get (D := D) (ci := 2) (v := .ref n_kind) (C := RX2) (T := TX2) (N := 8) hx hb hts inlX2 hown hK hP 1 rfl rfl 1 (by decide) (hts (Cond.fieldLink RX11 138 "ChanceRings$Net" "kind" "[I") qw_749) (fun _ h9 => h9) rfl dX11_node_70 ?_
            refine lv_iload_n hx hb dX11_node_73 rfl (lv_at hl 1 rfl) ?_
            refine va_iald hx hb hK hP 2 0 rfl rfl (tr_in h_117515 (by decide) (by decide)) dX11_node_74 ?_
            refine lv_topi (fun v_117528 v_117528_e => ?_)
            have h_v_117528 : 0 ≤ (v_117528 : Int32).toInt ∧ (v_117528 : Int32).toInt ≤ 3 := by rw [v_117528_e]; exact h_n_fkind _
            have g_v_117528 : v_117528 = n_fkind (p0.toInt.toNat) := v_117528_e.trans (congrArg n_fkind rfl)
            have gi_v_117528 := congrArg Int32.toInt g_v_117528
            refine lv_if_ne (tgt := 90) hx hb dX11_node_75 (by decide) (fun c_117529 => ?_) (fun c_117529 => ?_)
            · skip
              have c_117529_i : ¬ (v_117528 : Int32).toInt = (0 : Int32).toInt := (fun q => c_117529 (Int32.toInt_inj.mp q))
              have h_117530 : 1 ≤ (v_117528 : Int32).toInt ∧ (v_117528 : Int32).toInt ≤ 3 := nr_ne_l h_v_117528 (⟨by decide, by decide⟩ : 0 ≤ (0 : Int32).toInt ∧ (0 : Int32).toInt ≤ 0) c_117529_i (by decide) (by decide)
              refine lv_iconst (v := (-1)) hx hb dX11_node_90 (by decide) ?_
              refine W.widen (k := 1) (n := 6) (by decide) (by decide) ?_
              have hP9 := hP.sub (ws' := [(x, .inr (11, [.ref tp, .ref n, .ref d, .ref x_images, .ref x_kept, .ref rd, .ref st, .ref tl, .ref rg, .ref sv, .ref oc, .ref x_tried, .ref lf, .int xlk, .ref x_sw, .ref sww, .int xsb, .ref wi])), (n, .inr (2, [.int n_nodes, .ref n_kind, .ref n_pay, .ref n_name, .ref n_ways, .ref n_held, .ref n_targets, .ref n_weights])), (n_kind, .inl (g 0, 12, .inl n_fkind)), (n_pay, .inl (g 0, 12, .inl n_fpay)), (n_name, .inl (g 0, 12, .inl n_fname)), (n_ways, .inl (g 0, 12, .inl n_fways)), (n_held, .inl (g 0, 12, .inl n_fheld)), (n_targets, .inl (g 0, 36, .inl n_ftargets)), (n_weights, .inl (g 0, 36, .inl n_fweights))]) [0, 1, 2, 3, 4, 5, 6, 7, 8] rfl
              have hD9 := hD.sub (ws' := [(x, .inr (11, [.ref tp, .ref n, .ref d, .ref x_images, .ref x_kept, .ref rd, .ref st, .ref tl, .ref rg, .ref sv, .ref oc, .ref x_tried, .ref lf, .int xlk, .ref x_sw, .ref sww, .int xsb, .ref wi])), (n, .inr (2, [.int n_nodes, .ref n_kind, .ref n_pay, .ref n_name, .ref n_ways, .ref n_held, .ref n_targets, .ref n_weights])), (n_kind, .inl (g 0, 12, .inl n_fkind)), (n_pay, .inl (g 0, 12, .inl n_fpay)), (n_name, .inl (g 0, 12, .inl n_fname)), (n_ways, .inl (g 0, 12, .inl n_fways)), (n_held, .inl (g 0, 12, .inl n_fheld)), (n_targets, .inl (g 0, 36, .inl n_ftargets)), (n_weights, .inl (g 0, 36, .inl n_fweights))]) [0, 1, 2, 3, 4, 5, 6, 7, 8] (by decide) rfl
              exact vx_ret (W.iret (v := (-1)) hx hb hr (fun t ht hW => ⟨⟨(-1), (), rfl, ⟨trivial, (by have z_0 := tk_0; have z_1 := tk_1; have z_2 := tk_2; have z_3 := tk_3; have z_4 := tk_4; have z_9 := tk_9; have z_m := tk_m1; (first | (clear h_xlk h_n_nodes hw_117512 c_117513_i h_117515 h_117516 c_117517_i h_117519 c_117520_i h_117521 h_117527 h_v_117528 g_v_117528 gi_v_117528 c_117529_i h_117530; omega) | omega))⟩, by rw [ht]; exact hP9, hD9⟩, hS.F ht⟩) hS.2.2 dX11_node_91)
            · skip
              have c_117529_i : (v_117528 : Int32).toInt = (0 : Int32).toInt := congrArg Int32.toInt c_117529
              have h_117531 : 0 ≤ (v_117528 : Int32).toInt ∧ (v_117528 : Int32).toInt ≤ 0 := nr_eq_l h_v_117528 (⟨by decide, by decide⟩ : 0 ≤ (0 : Int32).toInt ∧ (0 : Int32).toInt ≤ 0) c_117529_i (by decide) (by decide)
              refine lv_aload_n hx hb dX11_node_78 rfl (lv_at hl 0 rfl) ?_
              refine va_get (D := D) (ci := 11) (v := .ref n) (C := RX11) (T := TX11) (N := 18) hx hb hts inlX11 hown hK hP 0 rfl rfl 1 (by decide) (hts (Cond.fieldLink RX11 19 "ChanceRings" "net" "LChanceRings$Net;") qw_719) (fun _ h9 => h9) rfl dX11_node_79 ?_
              refine va_get (D := D) (ci := 2) (v := .ref n_pay) (C := RX2) (T := TX2) (N := 8) hx hb hts inlX2 hown hK hP 1 rfl rfl 2 (by decide) (hts (Cond.fieldLink RX11 141 "ChanceRings$Net" "pay" "[I") qw_768) (fun _ h9 => h9) rfl dX11_node_82 ?_
              refine lv_iload_n hx hb dX11_node_85 rfl (lv_at hl 1 rfl) ?_
              refine va_iald hx hb hK hP 3 0 rfl rfl (tr_in h_117515 (by decide) (by decide)) dX11_node_86 ?_
              refine lv_topi (fun v_117532 v_117532_e => ?_)
              have g_v_117532 : v_117532 = n_fpay (p0.toInt.toNat) := v_117532_e.trans (congrArg n_fpay rfl)
              have gi_v_117532 := congrArg Int32.toInt g_v_117532
              refine lv_goto (tgt := 91) hx hb dX11_node_87 (by decide) ?_
              refine W.widen (k := 1) (n := 6) (by decide) (by decide) ?_
              have hP9 := hP.sub (ws' := [(x, .inr (11, [.ref tp, .ref n, .ref d, .ref x_images, .ref x_kept, .ref rd, .ref st, .ref tl, .ref rg, .ref sv, .ref oc, .ref x_tried, .ref lf, .int xlk, .ref x_sw, .ref sww, .int xsb, .ref wi])), (n, .inr (2, [.int n_nodes, .ref n_kind, .ref n_pay, .ref n_name, .ref n_ways, .ref n_held, .ref n_targets, .ref n_weights])), (n_kind, .inl (g 0, 12, .inl n_fkind)), (n_pay, .inl (g 0, 12, .inl n_fpay)), (n_name, .inl (g 0, 12, .inl n_fname)), (n_ways, .inl (g 0, 12, .inl n_fways)), (n_held, .inl (g 0, 12, .inl n_fheld)), (n_targets, .inl (g 0, 36, .inl n_ftargets)), (n_weights, .inl (g 0, 36, .inl n_fweights))]) [0, 1, 2, 3, 4, 5, 6, 7, 8] rfl
              have hD9 := hD.sub (ws' := [(x, .inr (11, [.ref tp, .ref n, .ref d, .ref x_images, .ref x_kept, .ref rd, .ref st, .ref tl, .ref rg, .ref sv, .ref oc, .ref x_tried, .ref lf, .int xlk, .ref x_sw, .ref sww, .int xsb, .ref wi])), (n, .inr (2, [.int n_nodes, .ref n_kind, .ref n_pay, .ref n_name, .ref n_ways, .ref n_held, .ref n_targets, .ref n_weights])), (n_kind, .inl (g 0, 12, .inl n_fkind)), (n_pay, .inl (g 0, 12, .inl n_fpay)), (n_name, .inl (g 0, 12, .inl n_fname)), (n_ways, .inl (g 0, 12, .inl n_fways)), (n_held, .inl (g 0, 12, .inl n_fheld)), (n_targets, .inl (g 0, 36, .inl n_ftargets)), (n_weights, .inl (g 0, 36, .inl n_fweights))]) [0, 1, 2, 3, 4, 5, 6, 7, 8] (by decide) rfl
              exact vx_ret (W.iret (v := v_117532) hx hb hr (fun t ht hW => ⟨⟨v_117532, (), rfl, ⟨trivial, (by have z_0 := tk_0; have z_1 := tk_1; have z_2 := tk_2; have z_3 := tk_3; have z_4 := tk_4; have z_9 := tk_9; have z_m := tk_m1; (first | (clear h_xlk h_n_nodes hw_117512 c_117513_i h_117516 c_117517_i h_117519 c_117520_i h_117521 h_117527; omega) | omega))⟩, by rw [ht]; exact hP9, hD9⟩, hS.F ht⟩) hS.2.2 dX11_node_91)
          · have e_117526_n : ¬ (p1 : Int32).toInt = 1 := fun q => e_117526 (Int32.toInt_inj.mp (q.trans (by decide)))
            by_cases e_117533 : p1 = 2
            · skip
              have h_117534 : 2 ≤ (p1 : Int32).toInt ∧ (p1 : Int32).toInt ≤ 2 := by rw [e_117533]; exact ⟨by decide, by decide⟩
              refine lv_tableIn (off := 63) (tgt := 92) hx hb dX11_node_29 (by rw [e_117533]; decide) (by rw [e_117533]; decide) (by rw [e_117533]; decide) (by decide) ?_
              refine lv_aload_n hx hb dX11_node_92 rfl (lv_at hl 0 rfl) ?_
              refine va_get (D := D) (ci := 11) (v := .ref n) (C := RX11) (T := TX11) (N := 18) hx hb hts inlX11 hown hK hP 0 rfl rfl 1 (by decide) (hts (Cond.fieldLink RX11 19 "ChanceRings" "net" "LChanceRings$Net;") qw_719) (fun _ h9 => h9) rfl dX11_node_93 ?_
              refine va_get (D := D) (ci := 2) (v := .ref n_ways) (C := RX2) (T := TX2) (N := 8) hx hb hts inlX2 hown hK hP 1 rfl rfl 4 (by decide) (hts (Cond.fieldLink RX11 144 "ChanceRings$Net" "ways" "[I") qw_795) (fun _ h9 => h9) rfl dX11_node_96 ?_
              refine lv_iload_n hx hb dX11_node_99 rfl (lv_at hl 1 rfl) ?_
              refine va_iald hx hb hK hP 5 0 rfl rfl (tr_in h_117515 (by decide) (by decide)) dX11_node_100 ?_
              refine lv_topi (fun v_117535 v_117535_e => ?_)
              have h_v_117535 : 0 ≤ (v_117535 : Int32).toInt ∧ (v_117535 : Int32).toInt ≤ 3 := by rw [v_117535_e]; exact h_n_fways _
              have g_v_117535 : v_117535 = n_fways (p0.toInt.toNat) := v_117535_e.trans (congrArg n_fways rfl)
              have gi_v_117535 := congrArg Int32.toInt g_v_117535
              refine W.widen (k := 1) (n := 6) (by decide) (by decide) ?_
              have hP9 := hP.sub (ws' := [(x, .inr (11, [.ref tp, .ref n, .ref d, .ref x_images, .ref x_kept, .ref rd, .ref st, .ref tl, .ref rg, .ref sv, .ref oc, .ref x_tried, .ref lf, .int xlk, .ref x_sw, .ref sww, .int xsb, .ref wi])), (n, .inr (2, [.int n_nodes, .ref n_kind, .ref n_pay, .ref n_name, .ref n_ways, .ref n_held, .ref n_targets, .ref n_weights])), (n_kind, .inl (g 0, 12, .inl n_fkind)), (n_pay, .inl (g 0, 12, .inl n_fpay)), (n_name, .inl (g 0, 12, .inl n_fname)), (n_ways, .inl (g 0, 12, .inl n_fways)), (n_held, .inl (g 0, 12, .inl n_fheld)), (n_targets, .inl (g 0, 36, .inl n_ftargets)), (n_weights, .inl (g 0, 36, .inl n_fweights))]) [0, 1, 2, 3, 4, 5, 6, 7, 8] rfl
              have hD9 := hD.sub (ws' := [(x, .inr (11, [.ref tp, .ref n, .ref d, .ref x_images, .ref x_kept, .ref rd, .ref st, .ref tl, .ref rg, .ref sv, .ref oc, .ref x_tried, .ref lf, .int xlk, .ref x_sw, .ref sww, .int xsb, .ref wi])), (n, .inr (2, [.int n_nodes, .ref n_kind, .ref n_pay, .ref n_name, .ref n_ways, .ref n_held, .ref n_targets, .ref n_weights])), (n_kind, .inl (g 0, 12, .inl n_fkind)), (n_pay, .inl (g 0, 12, .inl n_fpay)), (n_name, .inl (g 0, 12, .inl n_fname)), (n_ways, .inl (g 0, 12, .inl n_fways)), (n_held, .inl (g 0, 12, .inl n_fheld)), (n_targets, .inl (g 0, 36, .inl n_ftargets)), (n_weights, .inl (g 0, 36, .inl n_fweights))]) [0, 1, 2, 3, 4, 5, 6, 7, 8] (by decide) rfl
              exact vx_ret (W.iret (v := v_117535) hx hb hr (fun t ht hW => ⟨⟨v_117535, (), rfl, ⟨trivial, (by have z_0 := tk_0; have z_1 := tk_1; have z_2 := tk_2; have z_3 := tk_3; have z_4 := tk_4; have z_9 := tk_9; have z_m := tk_m1; (first | (clear h_xlk h_n_nodes hw_117512 c_117513_i h_117516 c_117517_i h_117519 c_117520_i h_117521 h_117534; omega) | omega))⟩, by rw [ht]; exact hP9, hD9⟩, hS.F ht⟩) hS.2.2 dX11_node_101)
            · have e_117533_n : ¬ (p1 : Int32).toInt = 2 := fun q => e_117533 (Int32.toInt_inj.mp (q.trans (by decide)))
              have e_117536 : p1 = 3 := Int32.toInt_inj.mp (((by have q1 := h_117521; (first | (clear h_xlk h_n_nodes hw_117512 c_117513_i h_117515 h_117516; omega) | omega)) : (p1 : Int32).toInt = 3).trans (by decide))
              have h_117537 : 3 ≤ (p1 : Int32).toInt ∧ (p1 : Int32).toInt ≤ 3 := by rw [e_117536]; exact ⟨by decide, by decide⟩
              refine lv_tableOut (tgt := 102) hx hb dX11_node_29 (by rw [e_117536]; decide) (by decide) ?_
              refine lv_aload_n hx hb dX11_node_102 rfl (lv_at hl 0 rfl) ?_
              refine va_get (D := D) (ci := 11) (v := .ref n) (C := RX11) (T := TX11) (N := 18) hx hb hts inlX11 hown hK hP 0 rfl rfl 1 (by decide) (hts (Cond.fieldLink RX11 19 "ChanceRings" "net" "LChanceRings$Net;") qw_719) (fun _ h9 => h9) rfl dX11_node_103 ?_
              refine va_get (D := D) (ci := 2) (v := .ref n_held) (C := RX2) (T := TX2) (N := 8) hx hb hts inlX2 hown hK hP 1 rfl rfl 5 (by decide) (hts (Cond.fieldLink RX11 147 "ChanceRings$Net" "held" "[I") qw_763) (fun _ h9 => h9) rfl dX11_node_106 ?_
              refine lv_iload_n hx hb dX11_node_109 rfl (lv_at hl 1 rfl) ?_
              refine va_iald hx hb hK hP 6 0 rfl rfl (tr_in h_117515 (by decide) (by decide)) dX11_node_110 ?_
              refine lv_topi (fun v_117538 v_117538_e => ?_)
              have h_v_117538 : (-1) ≤ (v_117538 : Int32).toInt ∧ (v_117538 : Int32).toInt ≤ 2 := by rw [v_117538_e]; exact h_n_fheld _
              have g_v_117538 : v_117538 = n_fheld (p0.toInt.toNat) := v_117538_e.trans (congrArg n_fheld rfl)
              have gi_v_117538 := congrArg Int32.toInt g_v_117538
              refine W.widen (k := 1) (n := 6) (by decide) (by decide) ?_
              have hP9 := hP.sub (ws' := [(x, .inr (11, [.ref tp, .ref n, .ref d, .ref x_images, .ref x_kept, .ref rd, .ref st, .ref tl, .ref rg, .ref sv, .ref oc, .ref x_tried, .ref lf, .int xlk, .ref x_sw, .ref sww, .int xsb, .ref wi])), (n, .inr (2, [.int n_nodes, .ref n_kind, .ref n_pay, .ref n_name, .ref n_ways, .ref n_held, .ref n_targets, .ref n_weights])), (n_kind, .inl (g 0, 12, .inl n_fkind)), (n_pay, .inl (g 0, 12, .inl n_fpay)), (n_name, .inl (g 0, 12, .inl n_fname)), (n_ways, .inl (g 0, 12, .inl n_fways)), (n_held, .inl (g 0, 12, .inl n_fheld)), (n_targets, .inl (g 0, 36, .inl n_ftargets)), (n_weights, .inl (g 0, 36, .inl n_fweights))]) [0, 1, 2, 3, 4, 5, 6, 7, 8] rfl
              have hD9 := hD.sub (ws' := [(x, .inr (11, [.ref tp, .ref n, .ref d, .ref x_images, .ref x_kept, .ref rd, .ref st, .ref tl, .ref rg, .ref sv, .ref oc, .ref x_tried, .ref lf, .int xlk, .ref x_sw, .ref sww, .int xsb, .ref wi])), (n, .inr (2, [.int n_nodes, .ref n_kind, .ref n_pay, .ref n_name, .ref n_ways, .ref n_held, .ref n_targets, .ref n_weights])), (n_kind, .inl (g 0, 12, .inl n_fkind)), (n_pay, .inl (g 0, 12, .inl n_fpay)), (n_name, .inl (g 0, 12, .inl n_fname)), (n_ways, .inl (g 0, 12, .inl n_fways)), (n_held, .inl (g 0, 12, .inl n_fheld)), (n_targets, .inl (g 0, 36, .inl n_ftargets)), (n_weights, .inl (g 0, 36, .inl n_fweights))]) [0, 1, 2, 3, 4, 5, 6, 7, 8] (by decide) rfl
              exact vx_ret (W.iret (v := v_117538) hx hb hr (fun t ht hW => ⟨⟨v_117538, (), rfl, ⟨trivial, (by have z_0 := tk_0; have z_1 := tk_1; have z_2 := tk_2; have z_3 := tk_3; have z_4 := tk_4; have z_9 := tk_9; have z_m := tk_m1; (first | (clear h_xlk h_n_nodes hw_117512 c_117513_i h_117516 c_117517_i h_117519 c_117520_i h_117521 e_117536 h_117537; omega) | omega))⟩, by rw [ht]; exact hP9, hD9⟩, hS.F ht⟩) hS.2.2 dX11_node_111)
      · skip
        have kk_3 := tk_3
        have c_117520_i := Int32.lt_iff_toInt_lt.mp (Int32.not_le.mp c_117520)
        have h_117522 : 4 ≤ (p1 : Int32).toInt ∧ (p1 : Int32).toInt ≤ 2147483647 := nr_lt_r (⟨by decide, by decide⟩ : 3 ≤ (3 : Int32).toInt ∧ (3 : Int32).toInt ≤ 3) h_117519 c_117520_i (by decide) (by decide)
        have hP9 := hP.sub (ws' := [(x, .inr (11, [.ref tp, .ref n, .ref d, .ref x_images, .ref x_kept, .ref rd, .ref st, .ref tl, .ref rg, .ref sv, .ref oc, .ref x_tried, .ref lf, .int xlk, .ref x_sw, .ref sww, .int xsb, .ref wi])), (n, .inr (2, [.int n_nodes, .ref n_kind, .ref n_pay, .ref n_name, .ref n_ways, .ref n_held, .ref n_targets, .ref n_weights])), (n_kind, .inl (g 0, 12, .inl n_fkind)), (n_pay, .inl (g 0, 12, .inl n_fpay)), (n_name, .inl (g 0, 12, .inl n_fname)), (n_ways, .inl (g 0, 12, .inl n_fways)), (n_held, .inl (g 0, 12, .inl n_fheld)), (n_targets, .inl (g 0, 36, .inl n_ftargets)), (n_weights, .inl (g 0, 36, .inl n_fweights))]) [0, 1, 2, 3, 4, 5, 6, 7, 8] rfl
        have hD9 := hD.sub (ws' := [(x, .inr (11, [.ref tp, .ref n, .ref d, .ref x_images, .ref x_kept, .ref rd, .ref st, .ref tl, .ref rg, .ref sv, .ref oc, .ref x_tried, .ref lf, .int xlk, .ref x_sw, .ref sww, .int xsb, .ref wi])), (n, .inr (2, [.int n_nodes, .ref n_kind, .ref n_pay, .ref n_name, .ref n_ways, .ref n_held, .ref n_targets, .ref n_weights])), (n_kind, .inl (g 0, 12, .inl n_fkind)), (n_pay, .inl (g 0, 12, .inl n_fpay)), (n_name, .inl (g 0, 12, .inl n_fname)), (n_ways, .inl (g 0, 12, .inl n_fways)), (n_held, .inl (g 0, 12, .inl n_fheld)), (n_targets, .inl (g 0, 36, .inl n_ftargets)), (n_weights, .inl (g 0, 36, .inl n_fweights))]) [0, 1, 2, 3, 4, 5, 6, 7, 8] (by decide) rfl
        exact vx_throw0 hx hb hst hown (by decide +kernel) (by decide +kernel) (hts (Cond.classLink RX11 135 "java/util/NoSuchElementException") qw_862) (hts (Cond.initialized "java/util/NoSuchElementException") qw_863) (tx_at hts hZ) tx_good hZ.1 hZ.2.1 hS (by rw [hml]; exact hl.1) dX11_node_20 dX11_node_23 dX11_node_24 dX11_node_27 (fun x hx => (htab x hx).elim) (Nat.le_of_ble_eq_true rfl) (Nat.le_of_ble_eq_true rfl) (Nat.le_of_ble_eq_true rfl) (Nat.le_of_ble_eq_true rfl) hlocks (fun t _ hz hk => ⟨(), trivial, ⟨rfl, (by have z_0 := tk_0; have z_1 := tk_1; have z_2 := tk_2; have z_3 := tk_3; have z_4 := tk_4; have z_9 := tk_9; have z_m := tk_m1; (first | (clear h_xlk h_n_nodes hw_117512 c_117513_i h_117515 h_117516 c_117517_i h_117519 c_117520_i h_117522; omega) | omega)), tx_keepP hP9 hk, hD9⟩, tx_F hS hz hk⟩) hS.2.2 (Nat.le_of_ble_eq_true rfl) (Nat.le_of_ble_eq_true rfl)
set_option maxHeartbeats 4000000 in
set_option maxRecDepth 100000 in
theorem c_X11_way (l : Launch) (hst : l.stackTraces = false) (D : va_G) (g : Nat → ClassId) (sz : Nat) (x : Nat) (p0 : Int32) (p1 : Int32) (p2 : Int32) (tp : Nat) (n : Nat) (d : Nat) (x_images : Nat) (x_kept : Nat) (rd : Nat) (st : Nat) (tl : Nat) (rg : Nat) (sv : Nat) (oc : Nat) (x_tried : Nat) (lf : Nat) (xlk : Int32) (x_sw : Nat) (sww : Nat) (xsb : Int32) (wi : Nat) (n_nodes : Int32) (n_kind : Nat) (n_pay : Nat) (n_name : Nat) (n_ways : Nat) (n_held : Nat) (n_targets : Nat) (n_weights : Nat) (n_fkind : Nat → Int32) (n_fpay : Nat → Int32) (n_fname : Nat → Int32) (n_fways : Nat → Int32) (n_fheld : Nat → Int32) (n_ftargets : Nat → Int32) (n_fweights : Nat → Int32) (h_xlk : 0 ≤ (xlk : Int32).toInt ∧ (xlk : Int32).toInt ≤ 1) (h_n_nodes : 0 ≤ (n_nodes : Int32).toInt ∧ (n_nodes : Int32).toInt ≤ 12) (h_n_fkind : ∀ j : Nat, 0 ≤ (n_fkind j).toInt ∧ (n_fkind j).toInt ≤ 3) (h_n_fways : ∀ j : Nat, 0 ≤ (n_fways j).toInt ∧ (n_fways j).toInt ≤ 3) (h_n_fheld : ∀ j : Nat, (-1) ≤ (n_fheld j).toInt ∧ (n_fheld j).toInt ≤ 2) (h_n_ftargets : ∀ j : Nat, 0 ≤ (n_ftargets j).toInt ∧ (n_ftargets j).toInt ≤ 11) : vx_Met l yX11_way (.code yX11_way cX11_way 4 (some .int) :: wsL_law) ({ frames := 6, cells := 1, slots := 6, locals := 90 }) (va_Pc [.ref x, .int p0, .int p1, .int p2] (fun U => U.heap.size = sz ∧ va_P D vwCl [(x, .inr (11, [.ref tp, .ref n, .ref d, .ref x_images, .ref x_kept, .ref rd, .ref st, .ref tl, .ref rg, .ref sv, .ref oc, .ref x_tried, .ref lf, .int xlk, .ref x_sw, .ref sww, .int xsb, .ref wi])), (n, .inr (2, [.int n_nodes, .ref n_kind, .ref n_pay, .ref n_name, .ref n_ways, .ref n_held, .ref n_targets, .ref n_weights])), (n_kind, .inl (g 0, 12, .inl n_fkind)), (n_pay, .inl (g 0, 12, .inl n_fpay)), (n_name, .inl (g 0, 12, .inl n_fname)), (n_ways, .inl (g 0, 12, .inl n_fways)), (n_held, .inl (g 0, 12, .inl n_fheld)), (n_targets, .inl (g 0, 36, .inl n_ftargets)), (n_weights, .inl (g 0, 36, .inl n_fweights))] U.heap ∧ va_K D vwCl (TY g) U ∧ va_D (fun _ => True) [(x, .inr (11, [.ref tp, .ref n, .ref d, .ref x_images, .ref x_kept, .ref rd, .ref st, .ref tl, .ref rg, .ref sv, .ref oc, .ref x_tried, .ref lf, .int xlk, .ref x_sw, .ref sww, .int xsb, .ref wi])), (n, .inr (2, [.int n_nodes, .ref n_kind, .ref n_pay, .ref n_name, .ref n_ways, .ref n_held, .ref n_targets, .ref n_weights])), (n_kind, .inl (g 0, 12, .inl n_fkind)), (n_pay, .inl (g 0, 12, .inl n_fpay)), (n_name, .inl (g 0, 12, .inl n_fname)), (n_ways, .inl (g 0, 12, .inl n_fways)), (n_held, .inl (g 0, 12, .inl n_fheld)), (n_targets, .inl (g 0, 36, .inl n_ftargets)), (n_weights, .inl (g 0, 36, .inl n_fweights))] ∧ ZT (va_A [(x, .inr (11, [.ref tp, .ref n, .ref d, .ref x_images, .ref x_kept, .ref rd, .ref st, .ref tl, .ref rg, .ref sv, .ref oc, .ref x_tried, .ref lf, .int xlk, .ref x_sw, .ref sww, .int xsb, .ref wi])), (n, .inr (2, [.int n_nodes, .ref n_kind, .ref n_pay, .ref n_name, .ref n_ways, .ref n_held, .ref n_targets, .ref n_weights])), (n_kind, .inl (g 0, 12, .inl n_fkind)), (n_pay, .inl (g 0, 12, .inl n_fpay)), (n_name, .inl (g 0, 12, .inl n_fname)), (n_ways, .inl (g 0, 12, .inl n_fways)), (n_held, .inl (g 0, 12, .inl n_fheld)), (n_targets, .inl (g 0, 36, .inl n_ftargets)), (n_weights, .inl (g 0, 36, .inl n_fweights))] sz) U U.heap)) (va_Qi (fun r (_ : Unit) => (True) ∧ ((((0 ≤ (p0 : Int32).toInt ∧ (p0 : Int32).toInt < (n_nodes : Int32).toInt) ∧ 0 ≤ (p1 : Int32).toInt ∧ (p1 : Int32).toInt < (n_fways (p0 : Int32).toInt.toNat).toInt) ∧ 0 ≤ (p2 : Int32).toInt ∧ (p2 : Int32).toInt ≤ 1) ∧ ((p2 : Int32).toInt = 0 → (r : Int32).toInt = (n_ftargets (3 * (p0 : Int32).toInt.toNat + (p1 : Int32).toInt.toNat)).toInt) ∧ ((p2 : Int32).toInt = 1 → (r : Int32).toInt = (n_fweights (3 * (p0 : Int32).toInt.toNat + (p1 : Int32).toInt.toNat)).toInt))) (fun _ t => va_P D vwCl [(x, .inr (11, [.ref tp, .ref n, .ref d, .ref x_images, .ref x_kept, .ref rd, .ref st, .ref tl, .ref rg, .ref sv, .ref oc, .ref x_tried, .ref lf, .int xlk, .ref x_sw, .ref sww, .int xsb, .ref wi])), (n, .inr (2, [.int n_nodes, .ref n_kind, .ref n_pay, .ref n_name, .ref n_ways, .ref n_held, .ref n_targets, .ref n_weights])), (n_kind, .inl (g 0, 12, .inl n_fkind)), (n_pay, .inl (g 0, 12, .inl n_fpay)), (n_name, .inl (g 0, 12, .inl n_fname)), (n_ways, .inl (g 0, 12, .inl n_fways)), (n_held, .inl (g 0, 12, .inl n_fheld)), (n_targets, .inl (g 0, 36, .inl n_ftargets)), (n_weights, .inl (g 0, 36, .inl n_fweights))] t.heap ∧ va_D (va_A [(x, .inr (11, [.ref tp, .ref n, .ref d, .ref x_images, .ref x_kept, .ref rd, .ref st, .ref tl, .ref rg, .ref sv, .ref oc, .ref x_tried, .ref lf, .int xlk, .ref x_sw, .ref sww, .int xsb, .ref wi])), (n, .inr (2, [.int n_nodes, .ref n_kind, .ref n_pay, .ref n_name, .ref n_ways, .ref n_held, .ref n_targets, .ref n_weights])), (n_kind, .inl (g 0, 12, .inl n_fkind)), (n_pay, .inl (g 0, 12, .inl n_fpay)), (n_name, .inl (g 0, 12, .inl n_fname)), (n_ways, .inl (g 0, 12, .inl n_fways)), (n_held, .inl (g 0, 12, .inl n_fheld)), (n_targets, .inl (g 0, 36, .inl n_ftargets)), (n_weights, .inl (g 0, 36, .inl n_fweights))] sz) [(x, .inr (11, [.ref tp, .ref n, .ref d, .ref x_images, .ref x_kept, .ref rd, .ref st, .ref tl, .ref rg, .ref sv, .ref oc, .ref x_tried, .ref lf, .int xlk, .ref x_sw, .ref sww, .int xsb, .ref wi])), (n, .inr (2, [.int n_nodes, .ref n_kind, .ref n_pay, .ref n_name, .ref n_ways, .ref n_held, .ref n_targets, .ref n_weights])), (n_kind, .inl (g 0, 12, .inl n_fkind)), (n_pay, .inl (g 0, 12, .inl n_fpay)), (n_name, .inl (g 0, 12, .inl n_fname)), (n_ways, .inl (g 0, 12, .inl n_fways)), (n_held, .inl (g 0, 12, .inl n_fheld)), (n_targets, .inl (g 0, 36, .inl n_ftargets)), (n_weights, .inl (g 0, 36, .inl n_fweights))]) (va_A [(x, .inr (11, [.ref tp, .ref n, .ref d, .ref x_images, .ref x_kept, .ref rd, .ref st, .ref tl, .ref rg, .ref sv, .ref oc, .ref x_tried, .ref lf, .int xlk, .ref x_sw, .ref sww, .int xsb, .ref wi])), (n, .inr (2, [.int n_nodes, .ref n_kind, .ref n_pay, .ref n_name, .ref n_ways, .ref n_held, .ref n_targets, .ref n_weights])), (n_kind, .inl (g 0, 12, .inl n_fkind)), (n_pay, .inl (g 0, 12, .inl n_fpay)), (n_name, .inl (g 0, 12, .inl n_fname)), (n_ways, .inl (g 0, 12, .inl n_fways)), (n_held, .inl (g 0, 12, .inl n_fheld)), (n_targets, .inl (g 0, 36, .inl n_ftargets)), (n_weights, .inl (g 0, 36, .inl n_fweights))] sz)) (vx_X (fun (_ : Unit) => True) (fun E _ t => E = "java/util/NoSuchElementException" ∧ (¬ (((0 ≤ (p0 : Int32).toInt ∧ (p0 : Int32).toInt < (n_nodes : Int32).toInt) ∧ 0 ≤ (p1 : Int32).toInt ∧ (p1 : Int32).toInt < (n_fways (p0 : Int32).toInt.toNat).toInt) ∧ 0 ≤ (p2 : Int32).toInt ∧ (p2 : Int32).toInt ≤ 1)) ∧ va_P D vwCl [(x, .inr (11, [.ref tp, .ref n, .ref d, .ref x_images, .ref x_kept, .ref rd, .ref st, .ref tl, .ref rg, .ref sv, .ref oc, .ref x_tried, .ref lf, .int xlk, .ref x_sw, .ref sww, .int xsb, .ref wi])), (n, .inr (2, [.int n_nodes, .ref n_kind, .ref n_pay, .ref n_name, .ref n_ways, .ref n_held, .ref n_targets, .ref n_weights])), (n_kind, .inl (g 0, 12, .inl n_fkind)), (n_pay, .inl (g 0, 12, .inl n_fpay)), (n_name, .inl (g 0, 12, .inl n_fname)), (n_ways, .inl (g 0, 12, .inl n_fways)), (n_held, .inl (g 0, 12, .inl n_fheld)), (n_targets, .inl (g 0, 36, .inl n_ftargets)), (n_weights, .inl (g 0, 36, .inl n_fweights))] t.heap ∧ va_D (va_A [(x, .inr (11, [.ref tp, .ref n, .ref d, .ref x_images, .ref x_kept, .ref rd, .ref st, .ref tl, .ref rg, .ref sv, .ref oc, .ref x_tried, .ref lf, .int xlk, .ref x_sw, .ref sww, .int xsb, .ref wi])), (n, .inr (2, [.int n_nodes, .ref n_kind, .ref n_pay, .ref n_name, .ref n_ways, .ref n_held, .ref n_targets, .ref n_weights])), (n_kind, .inl (g 0, 12, .inl n_fkind)), (n_pay, .inl (g 0, 12, .inl n_fpay)), (n_name, .inl (g 0, 12, .inl n_fname)), (n_ways, .inl (g 0, 12, .inl n_fways)), (n_held, .inl (g 0, 12, .inl n_fheld)), (n_targets, .inl (g 0, 36, .inl n_ftargets)), (n_weights, .inl (g 0, 36, .inl n_fweights))] sz) [(x, .inr (11, [.ref tp, .ref n, .ref d, .ref x_images, .ref x_kept, .ref rd, .ref st, .ref tl, .ref rg, .ref sv, .ref oc, .ref x_tried, .ref lf, .int xlk, .ref x_sw, .ref sww, .int xsb, .ref wi])), (n, .inr (2, [.int n_nodes, .ref n_kind, .ref n_pay, .ref n_name, .ref n_ways, .ref n_held, .ref n_targets, .ref n_weights])), (n_kind, .inl (g 0, 12, .inl n_fkind)), (n_pay, .inl (g 0, 12, .inl n_fpay)), (n_name, .inl (g 0, 12, .inl n_fname)), (n_ways, .inl (g 0, 12, .inl n_fways)), (n_held, .inl (g 0, 12, .inl n_fheld)), (n_targets, .inl (g 0, 36, .inl n_ftargets)), (n_weights, .inl (g 0, 36, .inl n_fweights))]) (va_A [(x, .inr (11, [.ref tp, .ref n, .ref d, .ref x_images, .ref x_kept, .ref rd, .ref st, .ref tl, .ref rg, .ref sv, .ref oc, .ref x_tried, .ref lf, .int xlk, .ref x_sw, .ref sww, .int xsb, .ref wi])), (n, .inr (2, [.int n_nodes, .ref n_kind, .ref n_pay, .ref n_name, .ref n_ways, .ref n_held, .ref n_targets, .ref n_weights])), (n_kind, .inl (g 0, 12, .inl n_fkind)), (n_pay, .inl (g 0, 12, .inl n_fpay)), (n_name, .inl (g 0, 12, .inl n_fname)), (n_ways, .inl (g 0, 12, .inl n_fways)), (n_held, .inl (g 0, 12, .inl n_fheld)), (n_targets, .inl (g 0, 36, .inl n_ftargets)), (n_weights, .inl (g 0, 36, .inl n_fweights))] sz)) 1 6 (va_A [(x, .inr (11, [.ref tp, .ref n, .ref d, .ref x_images, .ref x_kept, .ref rd, .ref st, .ref tl, .ref rg, .ref sv, .ref oc, .ref x_tried, .ref lf, .int xlk, .ref x_sw, .ref sww, .int xsb, .ref wi])), (n, .inr (2, [.int n_nodes, .ref n_kind, .ref n_pay, .ref n_name, .ref n_ways, .ref n_held, .ref n_targets, .ref n_weights])), (n_kind, .inl (g 0, 12, .inl n_fkind)), (n_pay, .inl (g 0, 12, .inl n_fpay)), (n_name, .inl (g 0, 12, .inl n_fname)), (n_ways, .inl (g 0, 12, .inl n_fways)), (n_held, .inl (g 0, 12, .inl n_fheld)), (n_targets, .inl (g 0, 36, .inl n_ftargets)), (n_weights, .inl (g 0, 36, .inl n_fweights))] sz) := by
  refine vx_ofW (cc := cX11_way) (maxL := 4) (ret := (some .int)) (by decide) rfl ?_
  intro p e s m args below meth c s₁ B hml htab hv
  obtain ⟨ha, hsz, hP, hK, hD0, hZ⟩ := hv
  have hx := B.exec
  have hb := B.bytes
  have hr := B.returns
  have hts0 := atoms_spec (ws := (.code yX11_way cX11_way 4 (some .int) :: wsL_law)) B.pre
  have hts : ∀ w ∈ wsL_law, w.before args s = true := fun w h => hts0 w (List.mem_cons_of_mem _ h)
  have hown : s.vm.findClass RX11 = some m.cls := findClass_of_methodNamed B.named
  have hlocks := B.notSynchronized
  subst hsz
  have hD := hD0.self (sz := s.heap.size)
  generalize hAe : va_A [(x, .inr (11, [.ref tp, .ref n, .ref d, .ref x_images, .ref x_kept, .ref rd, .ref st, .ref tl, .ref rg, .ref sv, .ref oc, .ref x_tried, .ref lf, .int xlk, .ref x_sw, .ref sww, .int xsb, .ref wi])), (n, .inr (2, [.int n_nodes, .ref n_kind, .ref n_pay, .ref n_name, .ref n_ways, .ref n_held, .ref n_targets, .ref n_weights])), (n_kind, .inl (g 0, 12, .inl n_fkind)), (n_pay, .inl (g 0, 12, .inl n_fpay)), (n_name, .inl (g 0, 12, .inl n_fname)), (n_ways, .inl (g 0, 12, .inl n_fways)), (n_held, .inl (g 0, 12, .inl n_fheld)), (n_targets, .inl (g 0, 36, .inl n_ftargets)), (n_weights, .inl (g 0, 36, .inl n_fweights))] s.heap.size = A at hD hZ ⊢
  have hA : ∀ q : Nat, s.heap.size ≤ q → A q := fun q h => by rw [← hAe]; exact Or.inr h
  have hS : va_S A s.heap s.heap [] := va_S.rf
  have hP : va_P D vwCl [(x, .inr (11, [.ref tp, .ref n, .ref d, .ref x_images, .ref x_kept, .ref rd, .ref st, .ref tl, .ref rg, .ref sv, .ref oc, .ref x_tried, .ref lf, .int xlk, .ref x_sw, .ref sww, .int xsb, .ref wi])), (n, .inr (2, [.int n_nodes, .ref n_kind, .ref n_pay, .ref n_name, .ref n_ways, .ref n_held, .ref n_targets, .ref n_weights])), (n_kind, .inl (g 0, 12, .inl n_fkind)), (n_pay, .inl (g 0, 12, .inl n_fpay)), (n_name, .inl (g 0, 12, .inl n_fname)), (n_ways, .inl (g 0, 12, .inl n_fways)), (n_held, .inl (g 0, 12, .inl n_fheld)), (n_targets, .inl (g 0, 36, .inl n_ftargets)), (n_weights, .inl (g 0, 36, .inl n_fweights))] s.heap := hP
  refine W.eq (g2 := entryFrame m ([.ref x, .int p0, .int p1, .int p2] : List Value).toArray 4) (by rw [ha]) ?_
  have hl := lv_entry ([.ref x, .int p0, .int p1, .int p2]) (n := 4) (Nat.le_of_ble_eq_true rfl)
  rw [lg_entry_eq]
  generalize (lg_sl ([.ref x, .int p0, .int p1, .int p2]) ++ List.replicate (4 - (lg_sl ([.ref x, .int p0, .int p1, .int p2])).length) Slot.unset).toArray = ls at hl ⊢
  have hl : lv_has ls 4 [(0, .ref x), (1, .int p0), (2, .int p1), (3, .int p2)] := hl
  have hwy_9 := h_n_fways (p0 : Int32).toInt.toNat
  refine lv_aload_n hx hb dX11_way_0 rfl (lv_at hl 0 rfl) ?_
  refine va_get (D := D) (ci := 11) (v := .ref n) (C := RX11) (T := TX11) (N := 18) hx hb hts inlX11 hown hK hP 0 rfl rfl 1 (by decide) (hts (Cond.fieldLink RX11 19 "ChanceRings" "net" "LChanceRings$Net;") qw_719) (fun _ h9 => h9) rfl dX11_way_1 ?_
  refine lv_iload_n hx hb dX11_way_4 rfl (lv_at hl 1 rfl) ?_
  refine lv_iload_n hx hb dX11_way_5 rfl (lv_at hl 2 rfl) ?_
  have hPc := hP.sub (ws' := [(n, .inr (2, [.int n_nodes, .ref n_kind, .ref n_pay, .ref n_name, .ref n_ways, .ref n_held, .ref n_targets, .ref n_weights])), (n_ways, .inl (g 0, 12, .inl n_fways))]) [1, 5] rfl
  refine vp_callSi (va_Run.run (va_runV (As := [.int p0, .int p1]) (rest := []) ⟨hx, hb, hml, hown, hts⟩ (c_X2_hasWayN l D g n p0 p1 n_nodes n_kind n_pay n_name n_ways n_held n_targets n_weights n_fways (tr_w h_n_nodes (by decide) (by decide)) (tr_wa h_n_fways (by decide) (by decide))) (cwV 2 hts (tz_gV qw_759 qw_760 qw_761 qw_322 qw_762) rfl rfl rfl (by decide +kernel) ⟨Nat.le_of_ble_eq_true rfl, Nat.le_of_ble_eq_true rfl⟩) ⟨tz_blS, va_recv hK hPc (ci := 2) (q0 := 0) rfl rfl, tz_preS hPc hK⟩ rfl rfl hl.1 rfl (lv_room (Nat.le_of_ble_eq_true rfl)) dX11_way_6 ⟨Nat.le_of_ble_eq_true rfl, Nat.le_of_ble_eq_true rfl⟩)) (fun r_117539 hw => ?_)
  have hw_117540 : 0 ≤ (r_117539 : Int32).toInt ∧ (r_117539 : Int32).toInt ≤ 1 := hw.1
  have hw_117540_p0 : Hide (¬ (r_117539 : Int32).toInt = 0 → (0 ≤ (p0 : Int32).toInt ∧ (p0 : Int32).toInt < (n_nodes : Int32).toInt) ∧ 0 ≤ (p1 : Int32).toInt ∧ (p1 : Int32).toInt < (n_fways (p0 : Int32).toInt.toNat).toInt) := hw.2.1
  have hw_117540_p1 : Hide ((r_117539 : Int32).toInt = 0 → ¬ ((0 ≤ (p0 : Int32).toInt ∧ (p0 : Int32).toInt < (n_nodes : Int32).toInt) ∧ 0 ≤ (p1 : Int32).toInt ∧ (p1 : Int32).toInt < (n_fways (p0 : Int32).toInt.toNat).toInt)) := hw.2.2
  refine lv_if_eq (tgt := 21) hx hb dX11_way_9 (by decide) (fun c_117541 => ?_) (fun c_117541 => ?_)
  · skip
    have kk_0 := tk_0
    have c_117541_i : (r_117539 : Int32).toInt = (0 : Int32).toInt := congrArg Int32.toInt c_117541
    have hw_117540_p1_u := (hw_117540_p1).get (c_117541_i.trans tk_0)
    have h_117542 : 0 ≤ (r_117539 : Int32).toInt ∧ (r_117539 : Int32).toInt ≤ 0 := nr_eq_l hw_117540 (⟨by decide, by decide⟩ : 0 ≤ (0 : Int32).toInt ∧ (0 : Int32).toInt ≤ 0) c_117541_i (by decide) (by decide)
    have hP9 := hP.sub (ws' := [(x, .inr (11, [.ref tp, .ref n, .ref d, .ref x_images, .ref x_kept, .ref rd, .ref st, .ref tl, .ref rg, .ref sv, .ref oc, .ref x_tried, .ref lf, .int xlk, .ref x_sw, .ref sww, .int xsb, .ref wi])), (n, .inr (2, [.int n_nodes, .ref n_kind, .ref n_pay, .ref n_name, .ref n_ways, .ref n_held, .ref n_targets, .ref n_weights])), (n_kind, .inl (g 0, 12, .inl n_fkind)), (n_pay, .inl (g 0, 12, .inl n_fpay)), (n_name, .inl (g 0, 12, .inl n_fname)), (n_ways, .inl (g 0, 12, .inl n_fways)), (n_held, .inl (g 0, 12, .inl n_fheld)), (n_targets, .inl (g 0, 36, .inl n_ftargets)), (n_weights, .inl (g 0, 36, .inl n_fweights))]) [0, 1, 2, 3, 4, 5, 6, 7, 8] rfl
    have hD9 := hD.sub (ws' := [(x, .inr (11, [.ref tp, .ref n, .ref d, .ref x_images, .ref x_kept, .ref rd, .ref st, .ref tl, .ref rg, .ref sv, .ref oc, .ref x_tried, .ref lf, .int xlk, .ref x_sw, .ref sww, .int xsb, .ref wi])), (n, .inr (2, [.int n_nodes, .ref n_kind, .ref n_pay, .ref n_name, .ref n_ways, .ref n_held, .ref n_targets, .ref n_weights])), (n_kind, .inl (g 0, 12, .inl n_fkind)), (n_pay, .inl (g 0, 12, .inl n_fpay)), (n_name, .inl (g 0, 12, .inl n_fname)), (n_ways, .inl (g 0, 12, .inl n_fways)), (n_held, .inl (g 0, 12, .inl n_fheld)), (n_targets, .inl (g 0, 36, .inl n_ftargets)), (n_weights, .inl (g 0, 36, .inl n_fweights))]) [0, 1, 2, 3, 4, 5, 6, 7, 8] (by decide) rfl
    exact vx_throw0 hx hb hst hown (by decide +kernel) (by decide +kernel) (hts (Cond.classLink RX11 135 "java/util/NoSuchElementException") qw_862) (hts (Cond.initialized "java/util/NoSuchElementException") qw_863) (tx_at hts hZ) tx_good hZ.1 hZ.2.1 hS (by rw [hml]; exact hl.1) dX11_way_21 dX11_way_24 dX11_way_25 dX11_way_28 (fun x hx => (htab x hx).elim) (Nat.le_of_ble_eq_true rfl) (Nat.le_of_ble_eq_true rfl) (Nat.le_of_ble_eq_true rfl) (Nat.le_of_ble_eq_true rfl) hlocks (fun t _ hz hk => ⟨(), trivial, ⟨rfl, (by have z_0 := tk_0; have z_1 := tk_1; have z_2 := tk_2; have z_3 := tk_3; have z_4 := tk_4; have z_9 := tk_9; have z_m := tk_m1; (first | (clear h_xlk h_n_nodes hw_117540 c_117541_i h_117542; omega) | omega)), tx_keepP hP9 hk, hD9⟩, tx_F hS hz hk⟩) hS.2.2 (Nat.le_of_ble_eq_true rfl) (Nat.le_of_ble_eq_true rfl)
  · skip
    have kk_0 := tk_0
    have c_117541_i : ¬ (r_117539 : Int32).toInt = (0 : Int32).toInt := (fun q => c_117541 (Int32.toInt_inj.mp q))
    have hw_117540_p0_u := (hw_117540_p0).get (fun q => c_117541_i (q.trans tk_0.symm))
    have h_117543 : 0 ≤ (p0 : Int32).toInt ∧ (p0 : Int32).toInt ≤ 11 := by (first | (clear h_xlk h_n_nodes hw_117540 c_117541_i; omega) | omega)
    have h_117544 : 0 ≤ (p1 : Int32).toInt ∧ (p1 : Int32).toInt ≤ 2 := by (first | (clear h_xlk h_n_nodes hw_117540 c_117541_i h_117543; omega) | omega)
    have h_117545 : 1 ≤ (r_117539 : Int32).toInt ∧ (r_117539 : Int32).toInt ≤ 1 := nr_ne_l hw_117540 (⟨by decide, by decide⟩ : 0 ≤ (0 : Int32).toInt ∧ (0 : Int32).toInt ≤ 0) c_117541_i (by decide) (by decide)
    refine lv_iload_n hx hb dX11_way_12 rfl (lv_at hl 3 rfl) ?_
    refine lv_if_lt (tgt := 21) hx hb dX11_way_13 (by decide) (fun c_117546 => ?_) (fun c_117546 => ?_)
    · skip
      have c_117546_i := Int32.lt_iff_toInt_lt.mp c_117546
      have h_117547 : (-2147483648) ≤ (p2 : Int32).toInt ∧ (p2 : Int32).toInt ≤ (-1) := nr_lt_l (tr_any p2) (⟨by decide, by decide⟩ : 0 ≤ (0 : Int32).toInt ∧ (0 : Int32).toInt ≤ 0) c_117546_i (by decide) (by decide)
      have hP9 := hP.sub (ws' := [(x, .inr (11, [.ref tp, .ref n, .ref d, .ref x_images, .ref x_kept, .ref rd, .ref st, .ref tl, .ref rg, .ref sv, .ref oc, .ref x_tried, .ref lf, .int xlk, .ref x_sw, .ref sww, .int xsb, .ref wi])), (n, .inr (2, [.int n_nodes, .ref n_kind, .ref n_pay, .ref n_name, .ref n_ways, .ref n_held, .ref n_targets, .ref n_weights])), (n_kind, .inl (g 0, 12, .inl n_fkind)), (n_pay, .inl (g 0, 12, .inl n_fpay)), (n_name, .inl (g 0, 12, .inl n_fname)), (n_ways, .inl (g 0, 12, .inl n_fways)), (n_held, .inl (g 0, 12, .inl n_fheld)), (n_targets, .inl (g 0, 36, .inl n_ftargets)), (n_weights, .inl (g 0, 36, .inl n_fweights))]) [0, 1, 2, 3, 4, 5, 6, 7, 8] rfl
      have hD9 := hD.sub (ws' := [(x, .inr (11, [.ref tp, .ref n, .ref d, .ref x_images, .ref x_kept, .ref rd, .ref st, .ref tl, .ref rg, .ref sv, .ref oc, .ref x_tried, .ref lf, .int xlk, .ref x_sw, .ref sww, .int xsb, .ref wi])), (n, .inr (2, [.int n_nodes, .ref n_kind, .ref n_pay, .ref n_name, .ref n_ways, .ref n_held, .ref n_targets, .ref n_weights])), (n_kind, .inl (g 0, 12, .inl n_fkind)), (n_pay, .inl (g 0, 12, .inl n_fpay)), (n_name, .inl (g 0, 12, .inl n_fname)), (n_ways, .inl (g 0, 12, .inl n_fways)), (n_held, .inl (g 0, 12, .inl n_fheld)), (n_targets, .inl (g 0, 36, .inl n_ftargets)), (n_weights, .inl (g 0, 36, .inl n_fweights))]) [0, 1, 2, 3, 4, 5, 6, 7, 8] (by decide) rfl
      exact vx_throw0 hx hb hst hown (by decide +kernel) (by decide +kernel) (hts (Cond.classLink RX11 135 "java/util/NoSuchElementException") qw_862) (hts (Cond.initialized "java/util/NoSuchElementException") qw_863) (tx_at hts hZ) tx_good hZ.1 hZ.2.1 hS (by rw [hml]; exact hl.1) dX11_way_21 dX11_way_24 dX11_way_25 dX11_way_28 (fun x hx => (htab x hx).elim) (Nat.le_of_ble_eq_true rfl) (Nat.le_of_ble_eq_true rfl) (Nat.le_of_ble_eq_true rfl) (Nat.le_of_ble_eq_true rfl) hlocks (fun t _ hz hk => ⟨(), trivial, ⟨rfl, (by have z_0 := tk_0; have z_1 := tk_1; have z_2 := tk_2; have z_3 := tk_3; have z_4 := tk_4; have z_9 := tk_9; have z_m := tk_m1; (first | (clear h_xlk h_n_nodes hw_117540 c_117541_i h_117543 h_117544 h_117545 c_117546_i h_117547; omega) | omega)), tx_keepP hP9 hk, hD9⟩, tx_F hS hz hk⟩) hS.2.2 (Nat.le_of_ble_eq_true rfl) (Nat.le_of_ble_eq_true rfl)
    · skip
      have c_117546_i := Int32.le_iff_toInt_le.mp (Int32.not_lt.mp c_117546)
      have h_117548 : 0 ≤ (p2 : Int32).toInt ∧ (p2 : Int32).toInt ≤ 2147483647 := nr_le_r (⟨by decide, by decide⟩ : 0 ≤ (0 : Int32).toInt ∧ (0 : Int32).toInt ≤ 0) (tr_any p2) c_117546_i (by decide) (by decide)
      refine lv_iload_n hx hb dX11_way_16 rfl (lv_at hl 3 rfl) ?_
      refine lv_iconst (v := 1) hx hb dX11_way_17 (by decide) ?_
      refine lv_icmp_le (tgt := 29) hx hb dX11_way_18 (by decide) (fun c_117549 => ?_) (fun c_117549 => ?_)
      · skip
        have kk_1 := tk_1
        have c_117549_i := Int32.le_iff_toInt_le.mp c_117549
        have h_117550 : 0 ≤ (p2 : Int32).toInt ∧ (p2 : Int32).toInt ≤ 1 := nr_le_l h_117548 (⟨by decide, by decide⟩ : 1 ≤ (1 : Int32).toInt ∧ (1 : Int32).toInt ≤ 1) c_117549_i (by decide) (by decide)
        refine lv_iload_n hx hb dX11_way_29 rfl (lv_at hl 3 rfl) ?_
        refine lv_if_ne (tgt := 45) hx hb dX11_way_30 (by decide) (fun c_117552 => ?_) (fun c_117552 => ?_)
        · skip
          have c_117552_i : ¬ (p2 : Int32).toInt = (0 : Int32).toInt := (fun q => c_117552 (Int32.toInt_inj.mp q))
          have h_117553 : 1 ≤ (p2 : Int32).toInt ∧ (p2 : Int32).toInt ≤ 1 := nr_ne_l h_117550 (⟨by decide, by decide⟩ : 0 ≤ (0 : Int32).toInt ∧ (0 : Int32).toInt ≤ 0) c_117552_i (by decide) (by decide)
          refine lv_aload_n hx hb dX11_way_45 rfl (lv_at hl 0 rfl) ?_
          refine va_get (D := D) (ci := 11) (v := .ref n) (C := RX11) (T := TX11) (N := 18) hx hb hts inlX11 hown hK hP 0 rfl rfl 1 (by decide) (hts (Cond.fieldLink RX11 19 "ChanceRings" "net" "LChanceRings$Net;") qw_719) (fun _ h9 => h9) rfl dX11_way_46 ?_
          refine lv_iload_n hx hb dX11_way_49 rfl (lv_at hl 1 rfl) ?_
          refine lv_iload_n hx hb dX11_way_50 rfl (lv_at hl 2 rfl) ?_
          have hPc := hP.sub (ws' := [(n, .inr (2, [.int n_nodes, .ref n_kind, .ref n_pay, .ref n_name, .ref n_ways, .ref n_held, .ref n_targets, .ref n_weights])), (n_weights, .inl (g 0, 36, .inl n_fweights))]) [1, 8] rfl
          refine vp_callSi (va_Run.run (va_runV (As := [.int p0, .int p1]) (rest := []) ⟨hx, hb, hml, hown, hts⟩ (c_X2_weightN l D g n p0 p1 n_nodes n_kind n_pay n_name n_ways n_held n_targets n_weights n_fweights (tr_w h_117543 (by decide) (by decide)) (tr_w h_117544 (by decide) (by decide)) (tr_w h_n_nodes (by decide) (by decide))) (cwV 2 hts (tz_gV qw_769 qw_375 qw_376 qw_322 qw_377) rfl rfl rfl (by decide +kernel) ⟨Nat.le_of_ble_eq_true rfl, Nat.le_of_ble_eq_true rfl⟩) ⟨tz_blS, va_recv hK hPc (ci := 2) (q0 := 0) rfl rfl, tz_preS hPc hK⟩ rfl rfl hl.1 rfl (lv_room (Nat.le_of_ble_eq_true rfl)) dX11_way_51 ⟨Nat.le_of_ble_eq_true rfl, Nat.le_of_ble_eq_true rfl⟩)) (fun r_117555 hw => ?_)
          have hw_117556_p0 : (r_117555 : Int32).toInt = (n_fweights (3 * (p0 : Int32).toInt.toNat + (p1 : Int32).toInt.toNat)).toInt := hw.2
          refine W.widen (k := 1) (n := 6) (by decide) (by decide) ?_
          have hP9 := hP.sub (ws' := [(x, .inr (11, [.ref tp, .ref n, .ref d, .ref x_images, .ref x_kept, .ref rd, .ref st, .ref tl, .ref rg, .ref sv, .ref oc, .ref x_tried, .ref lf, .int xlk, .ref x_sw, .ref sww, .int xsb, .ref wi])), (n, .inr (2, [.int n_nodes, .ref n_kind, .ref n_pay, .ref n_name, .ref n_ways, .ref n_held, .ref n_targets, .ref n_weights])), (n_kind, .inl (g 0, 12, .inl n_fkind)), (n_pay, .inl (g 0, 12, .inl n_fpay)), (n_name, .inl (g 0, 12, .inl n_fname)), (n_ways, .inl (g 0, 12, .inl n_fways)), (n_held, .inl (g 0, 12, .inl n_fheld)), (n_targets, .inl (g 0, 36, .inl n_ftargets)), (n_weights, .inl (g 0, 36, .inl n_fweights))]) [0, 1, 2, 3, 4, 5, 6, 7, 8] rfl
          have hD9 := hD.sub (ws' := [(x, .inr (11, [.ref tp, .ref n, .ref d, .ref x_images, .ref x_kept, .ref rd, .ref st, .ref tl, .ref rg, .ref sv, .ref oc, .ref x_tried, .ref lf, .int xlk, .ref x_sw, .ref sww, .int xsb, .ref wi])), (n, .inr (2, [.int n_nodes, .ref n_kind, .ref n_pay, .ref n_name, .ref n_ways, .ref n_held, .ref n_targets, .ref n_weights])), (n_kind, .inl (g 0, 12, .inl n_fkind)), (n_pay, .inl (g 0, 12, .inl n_fpay)), (n_name, .inl (g 0, 12, .inl n_fname)), (n_ways, .inl (g 0, 12, .inl n_fways)), (n_held, .inl (g 0, 12, .inl n_fheld)), (n_targets, .inl (g 0, 36, .inl n_ftargets)), (n_weights, .inl (g 0, 36, .inl n_fweights))]) [0, 1, 2, 3, 4, 5, 6, 7, 8] (by decide) rfl
          exact vx_ret (W.iret (v := r_117555) hx hb hr (fun t ht hW => ⟨⟨r_117555, (), rfl, ⟨trivial, (by have z_0 := tk_0; have z_1 := tk_1; have z_2 := tk_2; have z_3 := tk_3; have z_4 := tk_4; have z_9 := tk_9; have z_m := tk_m1; (first | (clear h_xlk h_n_nodes hw_117540 c_117541_i h_117545 c_117546_i h_117548 c_117549_i h_117550 c_117552_i h_117553; omega) | omega))⟩, by rw [ht]; exact hP9, hD9⟩, hS.F ht⟩) hS.2.2 dX11_way_54)
        · skip
          have c_117552_i : (p2 : Int32).toInt = (0 : Int32).toInt := congrArg Int32.toInt c_117552
          have h_117554 : 0 ≤ (p2 : Int32).toInt ∧ (p2 : Int32).toInt ≤ 0 := nr_eq_l h_117550 (⟨by decide, by decide⟩ : 0 ≤ (0 : Int32).toInt ∧ (0 : Int32).toInt ≤ 0) c_117552_i (by decide) (by decide)
          refine lv_aload_n hx hb dX11_way_33 rfl (lv_at hl 0 rfl) ?_
          refine va_get (D := D) (ci := 11) (v := .ref n) (C := RX11) (T := TX11) (N := 18) hx hb hts inlX11 hown hK hP 0 rfl rfl 1 (by decide) (hts (Cond.fieldLink RX11 19 "ChanceRings" "net" "LChanceRings$Net;") qw_719) (fun _ h9 => h9) rfl dX11_way_34 ?_
          refine lv_iload_n hx hb dX11_way_37 rfl (lv_at hl 1 rfl) ?_
          refine lv_iload_n hx hb dX11_way_38 rfl (lv_at hl 2 rfl) ?_
          have hPc := hP.sub (ws' := [(n, .inr (2, [.int n_nodes, .ref n_kind, .ref n_pay, .ref n_name, .ref n_ways, .ref n_held, .ref n_targets, .ref n_weights])), (n_targets, .inl (g 0, 36, .inl n_ftargets))]) [1, 7] rfl
          refine vp_callSi (va_Run.run (va_runV (As := [.int p0, .int p1]) (rest := []) ⟨hx, hb, hml, hown, hts⟩ (c_X2_targetN l D g n p0 p1 n_nodes n_kind n_pay n_name n_ways n_held n_targets n_weights n_ftargets (tr_w h_117543 (by decide) (by decide)) (tr_w h_117544 (by decide) (by decide)) (tr_w h_n_nodes (by decide) (by decide)) (tr_wa h_n_ftargets (by decide) (by decide))) (cwV 2 hts (tz_gV qw_796 qw_325 qw_326 qw_322 qw_327) rfl rfl rfl (by decide +kernel) ⟨Nat.le_of_ble_eq_true rfl, Nat.le_of_ble_eq_true rfl⟩) ⟨tz_blS, va_recv hK hPc (ci := 2) (q0 := 0) rfl rfl, tz_preS hPc hK⟩ rfl rfl hl.1 rfl (lv_room (Nat.le_of_ble_eq_true rfl)) dX11_way_39 ⟨Nat.le_of_ble_eq_true rfl, Nat.le_of_ble_eq_true rfl⟩)) (fun r_117557 hw => ?_)
          have hw_117558 : 0 ≤ (r_117557 : Int32).toInt ∧ (r_117557 : Int32).toInt ≤ 11 := hw.1
          have hw_117558_p0 : (r_117557 : Int32).toInt = (n_ftargets (3 * (p0 : Int32).toInt.toNat + (p1 : Int32).toInt.toNat)).toInt := hw.2
          refine lv_goto (tgt := 54) hx hb dX11_way_42 (by decide) ?_
          refine W.widen (k := 1) (n := 6) (by decide) (by decide) ?_
          have hP9 := hP.sub (ws' := [(x, .inr (11, [.ref tp, .ref n, .ref d, .ref x_images, .ref x_kept, .ref rd, .ref st, .ref tl, .ref rg, .ref sv, .ref oc, .ref x_tried, .ref lf, .int xlk, .ref x_sw, .ref sww, .int xsb, .ref wi])), (n, .inr (2, [.int n_nodes, .ref n_kind, .ref n_pay, .ref n_name, .ref n_ways, .ref n_held, .ref n_targets, .ref n_weights])), (n_kind, .inl (g 0, 12, .inl n_fkind)), (n_pay, .inl (g 0, 12, .inl n_fpay)), (n_name, .inl (g 0, 12, .inl n_fname)), (n_ways, .inl (g 0, 12, .inl n_fways)), (n_held, .inl (g 0, 12, .inl n_fheld)), (n_targets, .inl (g 0, 36, .inl n_ftargets)), (n_weights, .inl (g 0, 36, .inl n_fweights))]) [0, 1, 2, 3, 4, 5, 6, 7, 8] rfl
          have hD9 := hD.sub (ws' := [(x, .inr (11, [.ref tp, .ref n, .ref d, .ref x_images, .ref x_kept, .ref rd, .ref st, .ref tl, .ref rg, .ref sv, .ref oc, .ref x_tried, .ref lf, .int xlk, .ref x_sw, .ref sww, .int xsb, .ref wi])), (n, .inr (2, [.int n_nodes, .ref n_kind, .ref n_pay, .ref n_name, .ref n_ways, .ref n_held, .ref n_targets, .ref n_weights])), (n_kind, .inl (g 0, 12, .inl n_fkind)), (n_pay, .inl (g 0, 12, .inl n_fpay)), (n_name, .inl (g 0, 12, .inl n_fname)), (n_ways, .inl (g 0, 12, .inl n_fways)), (n_held, .inl (g 0, 12, .inl n_fheld)), (n_targets, .inl (g 0, 36, .inl n_ftargets)), (n_weights, .inl (g 0, 36, .inl n_fweights))]) [0, 1, 2, 3, 4, 5, 6, 7, 8] (by decide) rfl
          exact vx_ret (W.iret (v := r_117557) hx hb hr (fun t ht hW => ⟨⟨r_117557, (), rfl, ⟨trivial, (by have z_0 := tk_0; have z_1 := tk_1; have z_2 := tk_2; have z_3 := tk_3; have z_4 := tk_4; have z_9 := tk_9; have z_m := tk_m1; (first | (clear h_xlk h_n_nodes hw_117540 c_117541_i h_117545 c_117546_i h_117548 c_117549_i h_117550 c_117552_i h_117554; omega) | omega))⟩, by rw [ht]; exact hP9, hD9⟩, hS.F ht⟩) hS.2.2 dX11_way_54)
      · skip
        have kk_1 := tk_1
        have c_117549_i := Int32.lt_iff_toInt_lt.mp (Int32.not_le.mp c_117549)
        have h_117551 : 2 ≤ (p2 : Int32).toInt ∧ (p2 : Int32).toInt ≤ 2147483647 := nr_lt_r (⟨by decide, by decide⟩ : 1 ≤ (1 : Int32).toInt ∧ (1 : Int32).toInt ≤ 1) h_117548 c_117549_i (by decide) (by decide)
        have hP9 := hP.sub (ws' := [(x, .inr (11, [.ref tp, .ref n, .ref d, .ref x_images, .ref x_kept, .ref rd, .ref st, .ref tl, .ref rg, .ref sv, .ref oc, .ref x_tried, .ref lf, .int xlk, .ref x_sw, .ref sww, .int xsb, .ref wi])), (n, .inr (2, [.int n_nodes, .ref n_kind, .ref n_pay, .ref n_name, .ref n_ways, .ref n_held, .ref n_targets, .ref n_weights])), (n_kind, .inl (g 0, 12, .inl n_fkind)), (n_pay, .inl (g 0, 12, .inl n_fpay)), (n_name, .inl (g 0, 12, .inl n_fname)), (n_ways, .inl (g 0, 12, .inl n_fways)), (n_held, .inl (g 0, 12, .inl n_fheld)), (n_targets, .inl (g 0, 36, .inl n_ftargets)), (n_weights, .inl (g 0, 36, .inl n_fweights))]) [0, 1, 2, 3, 4, 5, 6, 7, 8] rfl
        have hD9 := hD.sub (ws' := [(x, .inr (11, [.ref tp, .ref n, .ref d, .ref x_images, .ref x_kept, .ref rd, .ref st, .ref tl, .ref rg, .ref sv, .ref oc, .ref x_tried, .ref lf, .int xlk, .ref x_sw, .ref sww, .int xsb, .ref wi])), (n, .inr (2, [.int n_nodes, .ref n_kind, .ref n_pay, .ref n_name, .ref n_ways, .ref n_held, .ref n_targets, .ref n_weights])), (n_kind, .inl (g 0, 12, .inl n_fkind)), (n_pay, .inl (g 0, 12, .inl n_fpay)), (n_name, .inl (g 0, 12, .inl n_fname)), (n_ways, .inl (g 0, 12, .inl n_fways)), (n_held, .inl (g 0, 12, .inl n_fheld)), (n_targets, .inl (g 0, 36, .inl n_ftargets)), (n_weights, .inl (g 0, 36, .inl n_fweights))]) [0, 1, 2, 3, 4, 5, 6, 7, 8] (by decide) rfl
        exact vx_throw0 hx hb hst hown (by decide +kernel) (by decide +kernel) (hts (Cond.classLink RX11 135 "java/util/NoSuchElementException") qw_862) (hts (Cond.initialized "java/util/NoSuchElementException") qw_863) (tx_at hts hZ) tx_good hZ.1 hZ.2.1 hS (by rw [hml]; exact hl.1) dX11_way_21 dX11_way_24 dX11_way_25 dX11_way_28 (fun x hx => (htab x hx).elim) (Nat.le_of_ble_eq_true rfl) (Nat.le_of_ble_eq_true rfl) (Nat.le_of_ble_eq_true rfl) (Nat.le_of_ble_eq_true rfl) hlocks (fun t _ hz hk => ⟨(), trivial, ⟨rfl, (by have z_0 := tk_0; have z_1 := tk_1; have z_2 := tk_2; have z_3 := tk_3; have z_4 := tk_4; have z_9 := tk_9; have z_m := tk_m1; (first | (clear h_xlk h_n_nodes hw_117540 c_117541_i h_117543 h_117544 h_117545 c_117546_i h_117548 c_117549_i h_117551; omega) | omega)), tx_keepP hP9 hk, hD9⟩, tx_F hS hz hk⟩) hS.2.2 (Nat.le_of_ble_eq_true rfl) (Nat.le_of_ble_eq_true rfl)
/-! the class's words as numbers, as its constructor makes them -/
def chr8 (x : Int32) : Int32 := ((x &&& 255).toUInt32 % 65536).toInt32
def pk32 (g : Nat → Int32) : Nat → Int32
  | 0 => 0
  | m + 1 => pk32 g m * 27 + (g m - 97 + 1)
theorem pack3 {f : Nat → Int32} {r0 r1 r2 v1 v2 v3 : Int32} (h0 : r0 = chr8 (f (nI 0).toNatClampNeg)) (h1 : r1 = chr8 (f (nI 1).toNatClampNeg)) (h2 : r2 = chr8 (f (nI 2).toNatClampNeg)) (e1 : v1 = 0 + (r0 - 97 + 1)) (e2 : v2 = v1 * 27 + (r1 - 97 + 1)) (e3 : v3 = v2 * 27 + (r2 - 97 + 1)) : v3 = pk32 (fun j => chr8 (f j)) 3 := by
  have a0 : (nI 0).toNatClampNeg = 0 := by decide
  have a1 : (nI 1).toNatClampNeg = 1 := by decide
  have a2 : (nI 2).toNatClampNeg = 2 := by decide
  have z : (0 : Int32) * 27 = 0 := by decide
  rw [a0] at h0
  rw [a1] at h1
  rw [a2] at h2
  rw [e3, e2, e1, h0, h1, h2]
  show _ = ((0 * 27 + (chr8 (f 0) - 97 + 1)) * 27 + (chr8 (f 1) - 97 + 1)) * 27 + (chr8 (f 2) - 97 + 1)
  rw [z]
theorem pack6 {f : Nat → Int32} {r0 r1 r2 r3 r4 r5 v1 v2 v3 v4 v5 v6 : Int32} (h0 : r0 = chr8 (f (nI 0).toNatClampNeg)) (h1 : r1 = chr8 (f (nI 1).toNatClampNeg)) (h2 : r2 = chr8 (f (nI 2).toNatClampNeg)) (h3 : r3 = chr8 (f (nI 3).toNatClampNeg)) (h4 : r4 = chr8 (f (nI 4).toNatClampNeg)) (h5 : r5 = chr8 (f (nI 5).toNatClampNeg)) (e1 : v1 = 0 + (r0 - 97 + 1)) (e2 : v2 = v1 * 27 + (r1 - 97 + 1)) (e3 : v3 = v2 * 27 + (r2 - 97 + 1)) (e4 : v4 = v3 * 27 + (r3 - 97 + 1)) (e5 : v5 = v4 * 27 + (r4 - 97 + 1)) (e6 : v6 = v5 * 27 + (r5 - 97 + 1)) : v6 = pk32 (fun j => chr8 (f j)) 6 := by
  have a0 : (nI 0).toNatClampNeg = 0 := by decide
  have a1 : (nI 1).toNatClampNeg = 1 := by decide
  have a2 : (nI 2).toNatClampNeg = 2 := by decide
  have a3 : (nI 3).toNatClampNeg = 3 := by decide
  have a4 : (nI 4).toNatClampNeg = 4 := by decide
  have a5 : (nI 5).toNatClampNeg = 5 := by decide
  have z : (0 : Int32) * 27 = 0 := by decide
  rw [a0] at h0
  rw [a1] at h1
  rw [a2] at h2
  rw [a3] at h3
  rw [a4] at h4
  rw [a5] at h5
  rw [e6, e5, e4, e3, e2, e1, h0, h1, h2, h3, h4, h5]
  show _ = (((((0 * 27 + (chr8 (f 0) - 97 + 1)) * 27 + (chr8 (f 1) - 97 + 1)) * 27 + (chr8 (f 2) - 97 + 1)) * 27 + (chr8 (f 3) - 97 + 1)) * 27 + (chr8 (f 4) - 97 + 1)) * 27 + (chr8 (f 5) - 97 + 1)
  rw [z]
/-- the five words' letters -/
def FFs (ff : Nat → Nat → Int32) : Prop := (ff 0 0 = 101 ∧ ff 0 1 = 110 ∧ ff 0 2 = 100) ∧ (ff 1 0 = 109 ∧ ff 1 1 = 97 ∧ ff 1 2 = 120) ∧ (ff 2 0 = 109 ∧ ff 2 1 = 105 ∧ ff 2 2 = 110) ∧ (ff 3 0 = 99 ∧ ff 3 1 = 104 ∧ ff 3 2 = 97 ∧ ff 3 3 = 110 ∧ ff 3 4 = 99 ∧ ff 3 5 = 101) ∧ ff 4 0 = 119 ∧ ff 4 1 = 97 ∧ ff 4 2 = 121
theorem pk3_at {f : Nat → Int32} {a b c : Int32} (h0 : f 0 = a) (h1 : f 1 = b) (h2 : f 2 = c) : pk32 (fun j => chr8 (f j)) 3 = ((0 * 27 + (chr8 a - 97 + 1)) * 27 + (chr8 b - 97 + 1)) * 27 + (chr8 c - 97 + 1) := by
  show ((0 * 27 + (chr8 (f 0) - 97 + 1)) * 27 + (chr8 (f 1) - 97 + 1)) * 27 + (chr8 (f 2) - 97 + 1) = _
  rw [h0, h1, h2]
theorem pk6_at {f : Nat → Int32} {a b c d e g : Int32} (h0 : f 0 = a) (h1 : f 1 = b) (h2 : f 2 = c) (h3 : f 3 = d) (h4 : f 4 = e) (h5 : f 5 = g) : pk32 (fun j => chr8 (f j)) 6 = (((((0 * 27 + (chr8 a - 97 + 1)) * 27 + (chr8 b - 97 + 1)) * 27 + (chr8 c - 97 + 1)) * 27 + (chr8 d - 97 + 1)) * 27 + (chr8 e - 97 + 1)) * 27 + (chr8 g - 97 + 1) := by
  show (((((0 * 27 + (chr8 (f 0) - 97 + 1)) * 27 + (chr8 (f 1) - 97 + 1)) * 27 + (chr8 (f 2) - 97 + 1)) * 27 + (chr8 (f 3) - 97 + 1)) * 27 + (chr8 (f 4) - 97 + 1)) * 27 + (chr8 (f 5) - 97 + 1) = _
  rw [h0, h1, h2, h3, h4, h5]
theorem kws_of {f0 f1 f2 f3 f4 : Nat → Int32} {r0 r1 r2 r3 : Int32} {ff : Nat → Nat → Int32} (h : FFs ff) (e1 : f1 = upd f0 (0 : Int32).toNatClampNeg r0) (e2 : f2 = upd f1 (1 : Int32).toNatClampNeg r1) (e3 : f3 = upd f2 (2 : Int32).toNatClampNeg r2) (e4 : f4 = upd f3 (3 : Int32).toNatClampNeg r3) (w0 : r0 = pk32 (fun j => chr8 (ff 0 j)) 3) (w1 : r1 = pk32 (fun j => chr8 (ff 1 j)) 3) (w2 : r2 = pk32 (fun j => chr8 (ff 2 j)) 3) (w3 : r3 = pk32 (fun j => chr8 (ff 3 j)) 6) : KWs f4 := by
  obtain ⟨⟨a0, a1, a2⟩, ⟨b0, b1, b2⟩, ⟨c0, c1, c2⟩, ⟨d0, d1, d2, d3, d4, d5⟩, -⟩ := h
  have i0 : (0 : Int32).toNatClampNeg = 0 := by decide
  have i1 : (1 : Int32).toNatClampNeg = 1 := by decide
  have i2 : (2 : Int32).toNatClampNeg = 2 := by decide
  have i3 : (3 : Int32).toNatClampNeg = 3 := by decide
  rw [i0] at e1
  rw [i1] at e2
  rw [i2] at e3
  rw [i3] at e4
  rw [pk3_at (f := ff 0) a0 a1 a2] at w0
  rw [pk3_at (f := ff 1) b0 b1 b2] at w1
  rw [pk3_at (f := ff 2) c0 c1 c2] at w2
  rw [pk6_at (f := ff 3) d0 d1 d2 d3 d4 d5] at w3
  refine ⟨?_, ?_, ?_, ?_⟩
  · rw [e4, upd_ne _ _ (by decide), e3, upd_ne _ _ (by decide), e2, upd_ne _ _ (by decide), e1, upd_at, w0]; decide +kernel
  · rw [e4, upd_ne _ _ (by decide), e3, upd_ne _ _ (by decide), e2, upd_at, w1]; decide +kernel
  · rw [e4, upd_ne _ _ (by decide), e3, upd_at, w2]; decide +kernel
  · rw [e4, upd_at, w3]; decide +kernel
theorem ww_of {r : Int32} {ff : Nat → Nat → Int32} (h : FFs ff) (w : r = pk32 (fun j => chr8 (ff 4 j)) 3) : r.toInt = 16819 := by
  obtain ⟨-, -, -, -, a0, a1, a2⟩ := h
  rw [pk3_at (f := ff 4) a0 a1 a2] at w
  rw [w]; decide +kernel
/-- two tapes with the same bytes, below a length -/
def TT (f g : Nat → Int32) (z : Int) : Prop := ∀ j : Nat, (j : Int) < z → (f j).toInt % 256 = (g j).toInt % 256
theorem TT.bg {f g : Nat → Int32} {z : Int} (h : TT f g z) : bg f z = bg g z := bg_eq h
theorem TT.mono {f g : Nat → Int32} {z z' : Int} (h : TT f g z) (hz : z' ≤ z) : TT f g z' := fun j hj => h j (by omega)
theorem TT.nil {f g : Nat → Int32} {z : Int} (hz : z ≤ 0) : TT f g z := fun j hj => by omega
theorem TT.feed {f g f' g' : Nat → Int32} {z z' y y' : Int} {a b c d e a' b' c' d' e' : Int32} (h : TT f g z) (hz : 0 ≤ z) (hy : y = z) (h1 : (z ≤ 420 → AP20 f f' z.toNat a b c d e) ∧ (420 < z → f' = f)) (h2 : (y ≤ 420 → AP20 g g' y.toNat a' b' c' d' e') ∧ (420 < y → g' = g)) (l1 : (z ≤ 420 → z' = z + 20) ∧ (420 < z → z' = z)) (ea : a' = a) (eb : b' = b) (ec : c' = c) (ed : d' = d) (ee : e' = e) : TT f' g' z' := by
  have hy9 := hy.symm; subst hy9; subst ea; subst eb; subst ec; subst ed; subst ee
  intro j hj
  by_cases q : z ≤ 420
  · have p1 := h1.1 q
    have p2 := h2.1 q
    have pz := l1.1 q
    by_cases w : (j : Int) < z
    · rw [p1.1 j (by omega), p2.1 j (by omega)]; exact h j w
    · obtain ⟨i, rfl⟩ : ∃ i, j = z.toNat + i := ⟨j - z.toNat, by omega⟩
      rw [p1.2 i (by omega), p2.2 i (by omega)]
  · have pz := l1.2 (by omega)
    rw [h1.2 (by omega), h2.2 (by omega)]
    exact h j (by omega)
