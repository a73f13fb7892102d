theorem qw_548 : Cond.fieldLink RX6 19 "ChanceRings$Solver" "net" "LChanceRings$Net;" ∈ wsL_law := tseg_2 (by decide +kernel) (List.mem_of_getElem? (i := 61) (by decide +kernel))
theorem qw_549 : Cond.fieldLink RX6 32 "ChanceRings$Net" "nodes" "I" ∈ wsL_law := tseg_1 (by decide +kernel) (List.mem_of_getElem? (i := 55) (by decide +kernel))
theorem qw_550 : Cond.fieldLink RX6 38 "ChanceRings$Net" "held" "[I" ∈ wsL_law := tseg_1 (by decide +kernel) (List.mem_of_getElem? (i := 86) (by decide +kernel))
theorem qw_558 : Cond.initialized RX6 ∈ wsL_law := tseg_1 (by decide +kernel) (List.mem_of_getElem? (i := 12) (by decide +kernel))
theorem qw_565 : Cond.fieldLink RX6 28 "ChanceRings$Solver" "course" "LChanceRings$Course;" ∈ wsL_law := tseg_2 (by decide +kernel) (List.mem_of_getElem? (i := 62) (by decide +kernel))
theorem qw_587 : Cond.fieldLink RX6 9 "ChanceRings$Solver" "keep" "[I" ∈ wsL_law := tseg_2 (by decide +kernel) (List.mem_of_getElem? (i := 64) (by decide +kernel))
theorem qw_612 : Cond.fieldLink RX6 15 "ChanceRings$Solver" "scaled" "[J" ∈ wsL_law := tseg_2 (by decide +kernel) (List.mem_of_getElem? (i := 65) (by decide +kernel))
theorem dX6_firstWays_0 : decode cX6_firstWays 0 = .ok (.iconst 0, 1) := by decide +kernel
theorem dX6_firstWays_1 : decode cX6_firstWays 1 = .ok (.istore_n 2, 1) := by decide +kernel
theorem dX6_firstWays_2 : decode cX6_firstWays 2 = .ok (.iload_n 2, 1) := by decide +kernel
theorem dX6_firstWays_3 : decode cX6_firstWays 3 = .ok (.aload_n 0, 1) := by decide +kernel
theorem dX6_firstWays_4 : decode cX6_firstWays 4 = .ok (.getfield 19, 3) := by decide +kernel
theorem dX6_firstWays_7 : decode cX6_firstWays 7 = .ok (.getfield 32, 3) := by decide +kernel
theorem dX6_firstWays_10 : decode cX6_firstWays 10 = .ok (.if_icmp .ge 38, 3) := by decide +kernel
theorem dX6_firstWays_13 : decode cX6_firstWays 13 = .ok (.aload_n 1, 1) := by decide +kernel
theorem dX6_firstWays_14 : decode cX6_firstWays 14 = .ok (.iload_n 2, 1) := by decide +kernel
theorem dX6_firstWays_15 : decode cX6_firstWays 15 = .ok (.aload_n 0, 1) := by decide +kernel
theorem dX6_firstWays_16 : decode cX6_firstWays 16 = .ok (.getfield 19, 3) := by decide +kernel
theorem dX6_firstWays_19 : decode cX6_firstWays 19 = .ok (.getfield 38, 3) := by decide +kernel
theorem dX6_firstWays_22 : decode cX6_firstWays 22 = .ok (.iload_n 2, 1) := by decide +kernel
theorem dX6_firstWays_23 : decode cX6_firstWays 23 = .ok (.iaload, 1) := by decide +kernel
theorem dX6_firstWays_24 : decode cX6_firstWays 24 = .ok (.iconst (-1), 1) := by decide +kernel
theorem dX6_firstWays_25 : decode cX6_firstWays 25 = .ok (.if_icmp .ne 7, 3) := by decide +kernel
theorem dX6_firstWays_28 : decode cX6_firstWays 28 = .ok (.iconst 0, 1) := by decide +kernel
theorem dX6_firstWays_29 : decode cX6_firstWays 29 = .ok (.goto 12, 3) := by decide +kernel
theorem dX6_firstWays_32 : decode cX6_firstWays 32 = .ok (.aload_n 0, 1) := by decide +kernel
theorem dX6_firstWays_33 : decode cX6_firstWays 33 = .ok (.getfield 19, 3) := by decide +kernel
theorem dX6_firstWays_36 : decode cX6_firstWays 36 = .ok (.getfield 38, 3) := by decide +kernel
theorem dX6_firstWays_39 : decode cX6_firstWays 39 = .ok (.iload_n 2, 1) := by decide +kernel
theorem dX6_firstWays_40 : decode cX6_firstWays 40 = .ok (.iaload, 1) := by decide +kernel
theorem dX6_firstWays_41 : decode cX6_firstWays 41 = .ok (.iastore, 1) := by decide +kernel
theorem dX6_firstWays_42 : decode cX6_firstWays 42 = .ok (.iinc 2 1, 3) := by decide +kernel
theorem dX6_firstWays_45 : decode cX6_firstWays 45 = .ok (.goto (-43), 3) := by decide +kernel
theorem dX6_firstWays_48 : decode cX6_firstWays 48 = .ok (.return_, 1) := by decide +kernel
set_option maxHeartbeats 4000000 in
set_option maxRecDepth 100000 in
theorem c_X6_firstWays (l : Launch) (D : va_G) (g : Nat → ClassId) (sz : Nat) (sv : Nat) (pl : Nat) (n : Nat) (co : Nat) (sv_keep : Nat) (sv_scaled : Nat) (n_nodes : Int32) (n_kind : Nat) (n_pay : Nat) (n_name : Nat) (n_ways : Nat) (n_held : Nat) (n_targets : Nat) (n_weights : Nat) (n_fheld : Nat → Int32) (plf : Nat → Int32) (h_n_nodes : 0 ≤ (n_nodes : Int32).toInt ∧ (n_nodes : Int32).toInt ≤ 12) (h_n_fheld : ∀ j : Nat, (-1) ≤ (n_fheld j).toInt ∧ (n_fheld j).toInt ≤ 2) (h_plf : ∀ j : Nat, 0 ≤ (plf j).toInt ∧ (plf j).toInt ≤ 2) : Met l yX6_firstWays (.code yX6_firstWays cX6_firstWays 3 none :: wsL_law) ({ frames := 0, cells := 0, slots := 0, locals := 0 }) (va_Pc [.ref sv, .ref pl] (fun U => U.heap.size = sz ∧ va_P D vwCl [(sv, .inr (6, [.ref n, .ref co, .ref sv_keep, .ref sv_scaled])), (n, .inr (2, [.int n_nodes, .ref n_kind, .ref n_pay, .ref n_name, .ref n_ways, .ref n_held, .ref n_targets, .ref n_weights])), (n_held, .inl (g 0, 12, .inl n_fheld)), (pl, .inl (g 0, 12, .inl plf))] U.heap ∧ va_K D vwCl (TY g) U ∧ va_D (fun _ => True) [(sv, .inr (6, [.ref n, .ref co, .ref sv_keep, .ref sv_scaled])), (n, .inr (2, [.int n_nodes, .ref n_kind, .ref n_pay, .ref n_name, .ref n_ways, .ref n_held, .ref n_targets, .ref n_weights])), (n_held, .inl (g 0, 12, .inl n_fheld)), (pl, .inl (g 0, 12, .inl plf))])) (va_Qv (fun (_ : Unit) => True) (fun _ t => ∃ opl : Nat → Int32, (∀ j : Nat, 0 ≤ (opl j).toInt ∧ (opl j).toInt ≤ 2) ∧ va_P D vwCl [(sv, .inr (6, [.ref n, .ref co, .ref sv_keep, .ref sv_scaled])), (n, .inr (2, [.int n_nodes, .ref n_kind, .ref n_pay, .ref n_name, .ref n_ways, .ref n_held, .ref n_targets, .ref n_weights])), (n_held, .inl (g 0, 12, .inl n_fheld)), (pl, .inl (g 0, 12, .inl opl))] t.heap ∧ va_D (va_A [(sv, .inr (6, [.ref n, .ref co, .ref sv_keep, .ref sv_scaled])), (n, .inr (2, [.int n_nodes, .ref n_kind, .ref n_pay, .ref n_name, .ref n_ways, .ref n_held, .ref n_targets, .ref n_weights])), (n_held, .inl (g 0, 12, .inl n_fheld)), (pl, .inl (g 0, 12, .inl plf))] sz) [(sv, .inr (6, [.ref n, .ref co, .ref sv_keep, .ref sv_scaled])), (n, .inr (2, [.int n_nodes, .ref n_kind, .ref n_pay, .ref n_name, .ref n_ways, .ref n_held, .ref n_targets, .ref n_weights])), (n_held, .inl (g 0, 12, .inl n_fheld)), (pl, .inl (g 0, 12, .inl opl))]) (va_A [(sv, .inr (6, [.ref n, .ref co, .ref sv_keep, .ref sv_scaled])), (n, .inr (2, [.int n_nodes, .ref n_kind, .ref n_pay, .ref n_name, .ref n_ways, .ref n_held, .ref n_targets, .ref n_weights])), (n_held, .inl (g 0, 12, .inl n_fheld)), (pl, .inl (g 0, 12, .inl plf))] sz)) 0 0 (va_A [(sv, .inr (6, [.ref n, .ref co, .ref sv_keep, .ref sv_scaled])), (n, .inr (2, [.int n_nodes, .ref n_kind, .ref n_pay, .ref n_name, .ref n_ways, .ref n_held, .ref n_targets, .ref n_weights])), (n_held, .inl (g 0, 12, .inl n_fheld)), (pl, .inl (g 0, 12, .inl plf))] sz) := by
  refine Met.ofW (cc := cX6_firstWays) (maxL := 3) (ret := none) (by decide) rfl ?_
  intro p e s m args below meth c s₁ B hml hv
  obtain ⟨ha, hsz, hP, hK, hD0⟩ := hv
  have hx := B.exec
  have hb := B.bytes
  have hr := B.returns
  have hts0 := atoms_spec (ws := (.code yX6_firstWays cX6_firstWays 3 none :: wsL_law)) B.pre
  have hts : ∀ w ∈ wsL_law, w.before args s = true := fun w h => hts0 w (List.mem_cons_of_mem _ h)
  have hown : s.vm.findClass RX6 = some m.cls := findClass_of_methodNamed B.named
  have hlocks := B.notSynchronized
  subst hsz
  have hD := hD0.self (sz := s.heap.size)
  generalize hAe : va_A [(sv, .inr (6, [.ref n, .ref co, .ref sv_keep, .ref sv_scaled])), (n, .inr (2, [.int n_nodes, .ref n_kind, .ref n_pay, .ref n_name, .ref n_ways, .ref n_held, .ref n_targets, .ref n_weights])), (n_held, .inl (g 0, 12, .inl n_fheld)), (pl, .inl (g 0, 12, .inl plf))] s.heap.size = A at hD ⊢
  have hA : ∀ q : Nat, s.heap.size ≤ q → A q := fun q h => by rw [← hAe]; exact Or.inr h
  have hS : va_S A s.heap s.heap [] := va_S.rf
  have hP : va_P D vwCl [(sv, .inr (6, [.ref n, .ref co, .ref sv_keep, .ref sv_scaled])), (n, .inr (2, [.int n_nodes, .ref n_kind, .ref n_pay, .ref n_name, .ref n_ways, .ref n_held, .ref n_targets, .ref n_weights])), (n_held, .inl (g 0, 12, .inl n_fheld)), (pl, .inl (g 0, 12, .inl plf))] s.heap := hP
  refine W.eq (g2 := entryFrame m ([.ref sv, .ref pl] : List Value).toArray 3) (by rw [ha]) ?_
  have hl := lv_entry ([.ref sv, .ref pl]) (n := 3) (Nat.le_of_ble_eq_true rfl)
  rw [lg_entry_eq]
  generalize (lg_sl ([.ref sv, .ref pl]) ++ List.replicate (3 - (lg_sl ([.ref sv, .ref pl])).length) Slot.unset).toArray = ls at hl ⊢
  have hl : lv_has ls 3 [(0, .ref sv), (1, .ref pl)] := hl
  refine lv_iconst (v := 0) hx hb dX6_firstWays_0 (by decide) ?_
  refine lv_istore_n (lv' := [(2, .int 0), (0, .ref sv), (1, .ref pl)]) hx hb dX6_firstWays_1 rfl hl (by decide) rfl (fun ls hl => ?_)
  have lp_80517 : ∀ (n_80517 : Nat) (x_80515 : Int32) (f_80516 : Nat → Int32) (H : Heap) (locs : List Loc) (ls : Array Slot), (0 ≤ (x_80515 : Int32).toInt ∧ (x_80515 : Int32).toInt ≤ 12) → (∀ j : Nat, 0 ≤ (f_80516 j).toInt ∧ (f_80516 j).toInt ≤ 2) → (12 - x_80515.toInt < (n_80517 : Int)) → va_P D vwCl [(sv, .inr (6, [.ref n, .ref co, .ref sv_keep, .ref sv_scaled])), (n, .inr (2, [.int n_nodes, .ref n_kind, .ref n_pay, .ref n_name, .ref n_ways, .ref n_held, .ref n_targets, .ref n_weights])), (n_held, .inl (g 0, 12, .inl n_fheld)), (pl, .inl (g 0, 12, .inl f_80516))] H → va_D A [(sv, .inr (6, [.ref n, .ref co, .ref sv_keep, .ref sv_scaled])), (n, .inr (2, [.int n_nodes, .ref n_kind, .ref n_pay, .ref n_name, .ref n_ways, .ref n_held, .ref n_targets, .ref n_weights])), (n_held, .inl (g 0, 12, .inl n_fheld)), (pl, .inl (g 0, 12, .inl f_80516))] → va_S A s.heap H locs → lv_has ls 3 [(2, .int x_80515), (0, .ref sv), (1, .ref pl)] → W p l e (headSpec (.code yX6_firstWays cX6_firstWays 3 none :: wsL_law) ({ frames := 0, cells := 0, slots := 0, locals := 0 })).room s m args below meth c H locs 0 0 (MQ below (va_Qv (fun (_ : Unit) => True) (fun _ t => ∃ opl : Nat → Int32, (∀ j : Nat, 0 ≤ (opl j).toInt ∧ (opl j).toInt ≤ 2) ∧ va_P D vwCl [(sv, .inr (6, [.ref n, .ref co, .ref sv_keep, .ref sv_scaled])), (n, .inr (2, [.int n_nodes, .ref n_kind, .ref n_pay, .ref n_name, .ref n_ways, .ref n_held, .ref n_targets, .ref n_weights])), (n_held, .inl (g 0, 12, .inl n_fheld)), (pl, .inl (g 0, 12, .inl opl))] t.heap ∧ va_D A [(sv, .inr (6, [.ref n, .ref co, .ref sv_keep, .ref sv_scaled])), (n, .inr (2, [.int n_nodes, .ref n_kind, .ref n_pay, .ref n_name, .ref n_ways, .ref n_held, .ref n_targets, .ref n_weights])), (n_held, .inl (g 0, 12, .inl n_fheld)), (pl, .inl (g 0, 12, .inl opl))]) A) args s 0 0 A) (F0 m 2 ls []) := by
    intro n_80517
    induction n_80517 with
    | zero =>
      intro x_80515 f_80516 H locs ls h_x_80515 h_f_80516 hm_80517 hP hD hS hl
      exfalso; omega
    | succ n_80517 ih_80517 =>
      intro x_80515 f_80516 H locs ls h_x_80515 h_f_80516 hm_80517 hP hD hS hl
      refine lv_iload_n hx hb dX6_firstWays_2 rfl (lv_at hl 0 rfl) ?_
      refine lv_aload_n hx hb dX6_firstWays_3 rfl (lv_at hl 1 rfl) ?_
      refine va_get (D := D) (ci := 6) (v := .ref n) (C := RX6) (T := TX6) (N := 4) hx hb hts inlX6 hown hK hP 0 rfl rfl 0 (by decide) (hts (Cond.fieldLink RX6 19 "ChanceRings$Solver" "net" "LChanceRings$Net;") qw_548) (fun _ h9 => h9) rfl dX6_firstWays_4 ?_
      refine va_get (D := D) (ci := 2) (v := .int n_nodes) (C := RX2) (T := TX2) (N := 8) hx hb hts inlX2 hown hK hP 1 rfl rfl 0 (by decide) (hts (Cond.fieldLink RX6 32 "ChanceRings$Net" "nodes" "I") qw_549) (fun _ h9 => h9) rfl dX6_firstWays_7 ?_
      refine lv_icmp_ge (tgt := 48) hx hb dX6_firstWays_10 (by decide) (fun c_80518 => ?_) (fun c_80518 => ?_)
      · skip
        have hP9 := hP.sub (ws' := [(sv, .inr (6, [.ref n, .ref co, .ref sv_keep, .ref sv_scaled])), (n, .inr (2, [.int n_nodes, .ref n_kind, .ref n_pay, .ref n_name, .ref n_ways, .ref n_held, .ref n_targets, .ref n_weights])), (n_held, .inl (g 0, 12, .inl n_fheld)), (pl, .inl (g 0, 12, .inl f_80516))]) [0, 1, 2, 3] rfl
        have hD9 := hD.sub (ws' := [(sv, .inr (6, [.ref n, .ref co, .ref sv_keep, .ref sv_scaled])), (n, .inr (2, [.int n_nodes, .ref n_kind, .ref n_pay, .ref n_name, .ref n_ways, .ref n_held, .ref n_targets, .ref n_weights])), (n_held, .inl (g 0, 12, .inl n_fheld)), (pl, .inl (g 0, 12, .inl f_80516))]) [0, 1, 2, 3] (by decide) rfl
        exact W.vret hx hb hr (fun t ht hW => ⟨⟨(), rfl, trivial, f_80516, (tr_wa h_f_80516 (by decide) (by decide)), by rw [ht]; exact hP9, hD9⟩, hS.F ht⟩) hS.2.2 dX6_firstWays_48
      · skip
        have c_80518_i := Int32.lt_iff_toInt_lt.mp (Int32.not_le.mp c_80518)
        have h_80519 : 0 ≤ (x_80515 : Int32).toInt ∧ (x_80515 : Int32).toInt ≤ 11 := nr_lt_l h_x_80515 h_n_nodes c_80518_i (by decide) (by decide)
        have h_80520 : 1 ≤ (n_nodes : Int32).toInt ∧ (n_nodes : Int32).toInt ≤ 12 := nr_lt_r h_x_80515 h_n_nodes c_80518_i (by decide) (by decide)
        refine lv_aload_n hx hb dX6_firstWays_13 rfl (lv_at hl 2 rfl) ?_
        refine lv_iload_n hx hb dX6_firstWays_14 rfl (lv_at hl 0 rfl) ?_
        refine lv_aload_n hx hb dX6_firstWays_15 rfl (lv_at hl 1 rfl) ?_
        refine va_get (D := D) (ci := 6) (v := .ref n) (C := RX6) (T := TX6) (N := 4) hx hb hts inlX6 hown hK hP 0 rfl rfl 0 (by decide) (hts (Cond.fieldLink RX6 19 "ChanceRings$Solver" "net" "LChanceRings$Net;") qw_548) (fun _ h9 => h9) rfl dX6_firstWays_16 ?_
        refine va_get (D := D) (ci := 2) (v := .ref n_held) (C := RX2) (T := TX2) (N := 8) hx hb hts inlX2 hown hK hP 1 rfl rfl 5 (by decide) (hts (Cond.fieldLink RX6 38 "ChanceRings$Net" "held" "[I") qw_550) (fun _ h9 => h9) rfl dX6_firstWays_19 ?_
        refine lv_iload_n hx hb dX6_firstWays_22 rfl (lv_at hl 0 rfl) ?_
        refine va_iald hx hb hK hP 2 0 rfl rfl (tr_in h_80519 (by decide) (by decide)) dX6_firstWays_23 ?_
        refine lv_topi (fun v_80521 v_80521_e => ?_)
        have h_v_80521 : (-1) ≤ (v_80521 : Int32).toInt ∧ (v_80521 : Int32).toInt ≤ 2 := by rw [v_80521_e]; exact h_n_fheld _
        refine lv_iconst (v := (-1)) hx hb dX6_firstWays_24 (by decide) ?_
        refine lv_icmp_ne (tgt := 32) hx hb dX6_firstWays_25 (by decide) (fun c_80522 => ?_) (fun c_80522 => ?_)
        · skip
          have c_80522_i : ¬ (v_80521 : Int32).toInt = ((-1) : Int32).toInt := (fun q => c_80522 (Int32.toInt_inj.mp q))
          have h_80523 : 0 ≤ (v_80521 : Int32).toInt ∧ (v_80521 : Int32).toInt ≤ 2 := nr_ne_l h_v_80521 (⟨by decide, by decide⟩ : (-1) ≤ ((-1) : Int32).toInt ∧ ((-1) : Int32).toInt ≤ (-1)) c_80522_i (by decide) (by decide)
          refine lv_aload_n hx hb dX6_firstWays_32 rfl (lv_at hl 1 rfl) ?_
          refine va_get (D := D) (ci := 6) (v := .ref n) (C := RX6) (T := TX6) (N := 4) hx hb hts inlX6 hown hK hP 0 rfl rfl 0 (by decide) (hts (Cond.fieldLink RX6 19 "ChanceRings$Solver" "net" "LChanceRings$Net;") qw_548) (fun _ h9 => h9) rfl dX6_firstWays_33 ?_
          refine va_get (D := D) (ci := 2) (v := .ref n_held) (C := RX2) (T := TX2) (N := 8) hx hb hts inlX2 hown hK hP 1 rfl rfl 5 (by decide) (hts (Cond.fieldLink RX6 38 "ChanceRings$Net" "held" "[I") qw_550) (fun _ h9 => h9) rfl dX6_firstWays_36 ?_
          refine lv_iload_n hx hb dX6_firstWays_39 rfl (lv_at hl 0 rfl) ?_
          refine va_iald hx hb hK hP 2 0 rfl rfl (tr_in h_80519 (by decide) (by decide)) dX6_firstWays_40 ?_
          refine tz_i (y := v_80521) v_80521_e.symm ?_
          refine va_iast hx hb hK hP hD hS 3 0 rfl rfl (tr_in h_80519 (by decide) (by decide)) dX6_firstWays_41 (fun H locs hP hD hS => ?_)
          obtain ⟨f_80525, h_f_80525, hP, hD⟩ : ∃ FX : Nat → Int32, (∀ j : Nat, 0 ≤ (FX j).toInt ∧ (FX j).toInt ≤ 2) ∧ va_P D vwCl [(sv, .inr (6, [.ref n, .ref co, .ref sv_keep, .ref sv_scaled])), (n, .inr (2, [.int n_nodes, .ref n_kind, .ref n_pay, .ref n_name, .ref n_ways, .ref n_held, .ref n_targets, .ref n_weights])), (n_held, .inl (g 0, 12, .inl n_fheld)), (pl, .inl (g 0, 12, .inl FX))] H ∧ va_D A [(sv, .inr (6, [.ref n, .ref co, .ref sv_keep, .ref sv_scaled])), (n, .inr (2, [.int n_nodes, .ref n_kind, .ref n_pay, .ref n_name, .ref n_ways, .ref n_held, .ref n_targets, .ref n_weights])), (n_held, .inl (g 0, 12, .inl n_fheld)), (pl, .inl (g 0, 12, .inl FX))] := ⟨_, tr_upd h_f_80516 (tr_w h_80523 (by decide) (by decide)), hP, hD⟩
          have hP : va_P D vwCl [(sv, .inr (6, [.ref n, .ref co, .ref sv_keep, .ref sv_scaled])), (n, .inr (2, [.int n_nodes, .ref n_kind, .ref n_pay, .ref n_name, .ref n_ways, .ref n_held, .ref n_targets, .ref n_weights])), (n_held, .inl (g 0, 12, .inl n_fheld)), (pl, .inl (g 0, 12, .inl f_80525))] H := hP
          have hD : va_D A [(sv, .inr (6, [.ref n, .ref co, .ref sv_keep, .ref sv_scaled])), (n, .inr (2, [.int n_nodes, .ref n_kind, .ref n_pay, .ref n_name, .ref n_ways, .ref n_held, .ref n_targets, .ref n_weights])), (n_held, .inl (g 0, 12, .inl n_fheld)), (pl, .inl (g 0, 12, .inl f_80525))] := hD
          obtain ⟨v_80526, v_80526_e⟩ : ∃ y : Int32, y = x_80515 + Int32.ofInt 1 := ⟨_, rfl⟩
          have h_v_80526 : 1 ≤ (v_80526 : Int32).toInt ∧ (v_80526 : Int32).toInt ≤ 12 := by rw [v_80526_e]; exact tr_add h_80519 (⟨by decide, by decide⟩ : 1 ≤ (Int32.ofInt 1 : Int32).toInt ∧ (Int32.ofInt 1 : Int32).toInt ≤ 1) (by decide) (by decide) (by decide) (by decide)
          have q_v_80526 : v_80526.toInt = x_80515.toInt + 1 := by rw [v_80526_e]; exact tr_addE h_80519 (⟨by decide, by decide⟩ : 1 ≤ (Int32.ofInt 1 : Int32).toInt ∧ (Int32.ofInt 1 : Int32).toInt ≤ 1) (by decide) (by decide)
          refine lv_iinc (v := v_80526) (lv' := [(2, .int v_80526), (0, .ref sv), (1, .ref pl)]) hx hb dX6_firstWays_42 hl (k := 0) rfl v_80526_e.symm (by decide) rfl (fun ls hl => ?_)
          refine lv_goto (tgt := 2) hx hb dX6_firstWays_45 (by decide) ?_
          exact ih_80517 v_80526 f_80525 H _ ls (tr_w h_v_80526 (by decide) (by decide)) (tr_wa h_f_80525 (by decide) (by decide)) (by (first | (clear h_f_80516 h_v_80521 c_80522_i h_80523; omega) | omega)) (hP.sub [0, 1, 2, 3] rfl) (hD.sub [0, 1, 2, 3] (by decide) rfl) hS (lv_sub hl [0, 1, 2] rfl)
        · skip
          have c_80522_i : (v_80521 : Int32).toInt = ((-1) : Int32).toInt := congrArg Int32.toInt c_80522
          have h_80524 : (-1) ≤ (v_80521 : Int32).toInt ∧ (v_80521 : Int32).toInt ≤ (-1) := nr_eq_l h_v_80521 (⟨by decide, by decide⟩ : (-1) ≤ ((-1) : Int32).toInt ∧ ((-1) : Int32).toInt ≤ (-1)) c_80522_i (by decide) (by decide)
          refine lv_iconst (v := 0) hx hb dX6_firstWays_28 (by decide) ?_
          refine lv_goto (tgt := 41) hx hb dX6_firstWays_29 (by decide) ?_
          refine va_iast hx hb hK hP hD hS 3 0 rfl rfl (tr_in h_80519 (by decide) (by decide)) dX6_firstWays_41 (fun H locs hP hD hS => ?_)
          obtain ⟨f_80527, h_f_80527, hP, hD⟩ : ∃ FX : Nat → Int32, (∀ j : Nat, 0 ≤ (FX j).toInt ∧ (FX j).toInt ≤ 2) ∧ va_P D vwCl [(sv, .inr (6, [.ref n, .ref co, .ref sv_keep, .ref sv_scaled])), (n, .inr (2, [.int n_nodes, .ref n_kind, .ref n_pay, .ref n_name, .ref n_ways, .ref n_held, .ref n_targets, .ref n_weights])), (n_held, .inl (g 0, 12, .inl n_fheld)), (pl, .inl (g 0, 12, .inl FX))] H ∧ va_D A [(sv, .inr (6, [.ref n, .ref co, .ref sv_keep, .ref sv_scaled])), (n, .inr (2, [.int n_nodes, .ref n_kind, .ref n_pay, .ref n_name, .ref n_ways, .ref n_held, .ref n_targets, .ref n_weights])), (n_held, .inl (g 0, 12, .inl n_fheld)), (pl, .inl (g 0, 12, .inl FX))] := ⟨_, tr_upd h_f_80516 (⟨by decide, by decide⟩ : 0 ≤ (0 : Int32).toInt ∧ (0 : Int32).toInt ≤ 2), hP, hD⟩
          have hP : va_P D vwCl [(sv, .inr (6, [.ref n, .ref co, .ref sv_keep, .ref sv_scaled])), (n, .inr (2, [.int n_nodes, .ref n_kind, .ref n_pay, .ref n_name, .ref n_ways, .ref n_held, .ref n_targets, .ref n_weights])), (n_held, .inl (g 0, 12, .inl n_fheld)), (pl, .inl (g 0, 12, .inl f_80527))] H := hP
          have hD : va_D A [(sv, .inr (6, [.ref n, .ref co, .ref sv_keep, .ref sv_scaled])), (n, .inr (2, [.int n_nodes, .ref n_kind, .ref n_pay, .ref n_name, .ref n_ways, .ref n_held, .ref n_targets, .ref n_weights])), (n_held, .inl (g 0, 12, .inl n_fheld)), (pl, .inl (g 0, 12, .inl f_80527))] := hD
          obtain ⟨v_80528, v_80528_e⟩ : ∃ y : Int32, y = x_80515 + Int32.ofInt 1 := ⟨_, rfl⟩
          have h_v_80528 : 1 ≤ (v_80528 : Int32).toInt ∧ (v_80528 : Int32).toInt ≤ 12 := by rw [v_80528_e]; exact tr_add h_80519 (⟨by decide, by decide⟩ : 1 ≤ (Int32.ofInt 1 : Int32).toInt ∧ (Int32.ofInt 1 : Int32).toInt ≤ 1) (by decide) (by decide) (by decide) (by decide)
          have q_v_80528 : v_80528.toInt = x_80515.toInt + 1 := by rw [v_80528_e]; exact tr_addE h_80519 (⟨by decide, by decide⟩ : 1 ≤ (Int32.ofInt 1 : Int32).toInt ∧ (Int32.ofInt 1 : Int32).toInt ≤ 1) (by decide) (by decide)
          refine lv_iinc (v := v_80528) (lv' := [(2, .int v_80528), (0, .ref sv), (1, .ref pl)]) hx hb dX6_firstWays_42 hl (k := 0) rfl v_80528_e.symm (by decide) rfl (fun ls hl => ?_)
          refine lv_goto (tgt := 2) hx hb dX6_firstWays_45 (by decide) ?_
          exact ih_80517 v_80528 f_80527 H _ ls (tr_w h_v_80528 (by decide) (by decide)) (tr_wa h_f_80527 (by decide) (by decide)) (by (first | (clear h_f_80516 h_v_80521 c_80522_i h_80524; omega) | omega)) (hP.sub [0, 1, 2, 3] rfl) (hD.sub [0, 1, 2, 3] (by decide) rfl) hS (lv_sub hl [0, 1, 2] rfl)
  exact lp_80517 13 0 plf s.heap _ ls (⟨by decide, by decide⟩ : 0 ≤ (0 : Int32).toInt ∧ (0 : Int32).toInt ≤ 12) (tr_wa h_plf (by decide) (by decide)) (by decide) (hP.sub [0, 1, 2, 3] rfl) (hD.sub [0, 1, 2, 3] (by decide) rfl) hS (lv_sub hl [0, 1, 2] rfl)
