set_option maxHeartbeats 4000000 in
set_option maxRecDepth 100000 in
theorem c_X6_findBest (l : Launch) (D : va_G) (g : Nat → ClassId) (sz : Nat) (sv : Nat) (vs : Nat) (pl : Nat) (n : Nat) (co : Nat) (sv_keep : Nat) (sv_scaled : Nat) (n_nodes : Int32) (n_kind : Nat) (n_pay : Nat) (n_name : Nat) (n_ways : Nat) (n_held : Nat) (n_targets : Nat) (n_weights : Nat) (n_fkind : Nat → Int32) (n_fpay : Nat → Int32) (n_fways : Nat → Int32) (n_fheld : Nat → Int32) (n_ftargets : Nat → Int32) (vs_part : Nat) (vsw : Int64) (vsp : Nat → Int64) (kpf : Nat → Int32) (plf : Nat → Int32) (h_n_nodes : 0 ≤ (n_nodes : Int32).toInt ∧ (n_nodes : Int32).toInt ≤ 12) (h_n_fkind : ∀ j : Nat, 0 ≤ (n_fkind j).toInt ∧ (n_fkind j).toInt ≤ 3) (h_n_fways : ∀ j : Nat, 0 ≤ (n_fways j).toInt ∧ (n_fways j).toInt ≤ 3) (h_n_fheld : ∀ j : Nat, (-1) ≤ (n_fheld j).toInt ∧ (n_fheld j).toInt ≤ 2) (h_n_ftargets : ∀ j : Nat, 0 ≤ (n_ftargets j).toInt ∧ (n_ftargets j).toInt ≤ 11) (h_plf : ∀ j : Nat, 0 ≤ (plf j).toInt ∧ (plf j).toInt ≤ 2) : Met l yX6_findBest (.code yX6_findBest cX6_findBest 4 none :: wsL_law) ({ frames := 4, cells := 0, slots := 0, locals := 100 }) (va_Pc [.ref sv, .ref vs, .ref pl] (fun U => U.heap.size = sz ∧ va_P D vwCl [(wO6 sv n co sv_keep sv_scaled), (wO2 n n_nodes n_kind n_pay n_name n_ways n_held n_targets n_weights), (wI g n_kind 0 12 n_fkind), (wI g n_pay 0 12 n_fpay), (wI g n_ways 0 12 n_fways), (wI g n_held 0 12 n_fheld), (wI g n_targets 0 36 n_ftargets), (wO10 vs vs_part vsw), (wJ g vs_part 1 12 vsp), (wI g sv_keep 0 12 kpf), (wI g pl 0 12 plf)] U.heap ∧ va_K D vwCl (TY g) U ∧ va_D (fun _ => True) [(wO6 sv n co sv_keep sv_scaled), (wO2 n n_nodes n_kind n_pay n_name n_ways n_held n_targets n_weights), (wI g n_kind 0 12 n_fkind), (wI g n_pay 0 12 n_fpay), (wI g n_ways 0 12 n_fways), (wI g n_held 0 12 n_fheld), (wI g n_targets 0 36 n_ftargets), (wO10 vs vs_part vsw), (wJ g vs_part 1 12 vsp), (wI g sv_keep 0 12 kpf), (wI g pl 0 12 plf)])) (va_Qv (fun (_ : Unit) => True) (fun _ t => ∃ okp : Nat → Int32, ∃ opl : Nat → Int32, (∀ j : Nat, 0 ≤ (opl j).toInt ∧ (opl j).toInt ≤ 2) ∧ va_P D vwCl [(wO6 sv n co sv_keep sv_scaled), (wO2 n n_nodes n_kind n_pay n_name n_ways n_held n_targets n_weights), (wI g n_kind 0 12 n_fkind), (wI g n_pay 0 12 n_fpay), (wI g n_ways 0 12 n_fways), (wI g n_held 0 12 n_fheld), (wI g n_targets 0 36 n_ftargets), (wO10 vs vs_part vsw), (wJ g vs_part 1 12 vsp), (wI g sv_keep 0 12 okp), (wI g pl 0 12 opl)] t.heap ∧ va_D (va_A [(wO6 sv n co sv_keep sv_scaled), (wO2 n n_nodes n_kind n_pay n_name n_ways n_held n_targets n_weights), (wI g n_kind 0 12 n_fkind), (wI g n_pay 0 12 n_fpay), (wI g n_ways 0 12 n_fways), (wI g n_held 0 12 n_fheld), (wI g n_targets 0 36 n_ftargets), (wO10 vs vs_part vsw), (wJ g vs_part 1 12 vsp), (wI g sv_keep 0 12 kpf), (wI g pl 0 12 plf)] sz) [(wO6 sv n co sv_keep sv_scaled), (wO2 n n_nodes n_kind n_pay n_name n_ways n_held n_targets n_weights), (wI g n_kind 0 12 n_fkind), (wI g n_pay 0 12 n_fpay), (wI g n_ways 0 12 n_fways), (wI g n_held 0 12 n_fheld), (wI g n_targets 0 36 n_ftargets), (wO10 vs vs_part vsw), (wJ g vs_part 1 12 vsp), (wI g sv_keep 0 12 okp), (wI g pl 0 12 opl)]) (va_A [(wO6 sv n co sv_keep sv_scaled), (wO2 n n_nodes n_kind n_pay n_name n_ways n_held n_targets n_weights), (wI g n_kind 0 12 n_fkind), (wI g n_pay 0 12 n_fpay), (wI g n_ways 0 12 n_fways), (wI g n_held 0 12 n_fheld), (wI g n_targets 0 36 n_ftargets), (wO10 vs vs_part vsw), (wJ g vs_part 1 12 vsp), (wI g sv_keep 0 12 kpf), (wI g pl 0 12 plf)] sz)) 0 0 (va_A [(wO6 sv n co sv_keep sv_scaled), (wO2 n n_nodes n_kind n_pay n_name n_ways n_held n_targets n_weights), (wI g n_kind 0 12 n_fkind), (wI g n_pay 0 12 n_fpay), (wI g n_ways 0 12 n_fways), (wI g n_held 0 12 n_fheld), (wI g n_targets 0 36 n_ftargets), (wO10 vs vs_part vsw), (wJ g vs_part 1 12 vsp), (wI g sv_keep 0 12 kpf), (wI g pl 0 12 plf)] sz) := by
  refine Met.ofW (cc := cX6_findBest) (maxL := 4) (ret := none) (by decide) rfl ?_
  intro p e s m args below meth c s₁ B hml hv
  obtain ⟨ha, hsz, hP, hK, hD0⟩ := hv
  have hx := B.exec
  have hb := B.bytes
  have hr := B.returns
  have hts0 := atoms_spec (ws := (.code yX6_findBest cX6_findBest 4 none :: wsL_law)) B.pre
  have hts : ∀ w ∈ wsL_law, w.before args s = true := fun w h => hts0 w (List.mem_cons_of_mem _ h)
  have hown : s.vm.findClass RX6 = some m.cls := findClass_of_methodNamed B.named
  have hlocks := B.notSynchronized
  subst hsz
  have hD := hD0.self (sz := s.heap.size)
  generalize hAe : va_A [(wO6 sv n co sv_keep sv_scaled), (wO2 n n_nodes n_kind n_pay n_name n_ways n_held n_targets n_weights), (wI g n_kind 0 12 n_fkind), (wI g n_pay 0 12 n_fpay), (wI g n_ways 0 12 n_fways), (wI g n_held 0 12 n_fheld), (wI g n_targets 0 36 n_ftargets), (wO10 vs vs_part vsw), (wJ g vs_part 1 12 vsp), (wI g sv_keep 0 12 kpf), (wI g pl 0 12 plf)] s.heap.size = A at hD ⊢
  have hA : ∀ q : Nat, s.heap.size ≤ q → A q := fun q h => by rw [← hAe]; exact Or.inr h
  have hS : va_S A s.heap s.heap [] := va_S.rf
  have hP : va_P D vwCl [(wO6 sv n co sv_keep sv_scaled), (wO2 n n_nodes n_kind n_pay n_name n_ways n_held n_targets n_weights), (wI g n_kind 0 12 n_fkind), (wI g n_pay 0 12 n_fpay), (wI g n_ways 0 12 n_fways), (wI g n_held 0 12 n_fheld), (wI g n_targets 0 36 n_ftargets), (wO10 vs vs_part vsw), (wJ g vs_part 1 12 vsp), (wI g sv_keep 0 12 kpf), (wI g pl 0 12 plf)] s.heap := hP
  refine W.eq (g2 := entryFrame m ([.ref sv, .ref vs, .ref pl] : List Value).toArray 4) (by rw [ha]) ?_
  have hl := lv_entry ([.ref sv, .ref vs, .ref pl]) (n := 4) (Nat.le_of_ble_eq_true rfl)
  rw [lg_entry_eq]
  generalize (lg_sl ([.ref sv, .ref vs, .ref pl]) ++ List.replicate (4 - (lg_sl ([.ref sv, .ref vs, .ref pl])).length) Slot.unset).toArray = ls at hl ⊢
  have hl : lv_has ls 4 [(0, .ref sv), (1, .ref vs), (2, .ref pl)] := hl
  refine lv_aload_n hx hb dX6_findBest_0 rfl (lv_at hl 0 rfl) ?_
  refine lv_aload_n hx hb dX6_findBest_1 rfl (lv_at hl 1 rfl) ?_
  have hPc := hP.sub (ws' := [(wO6 sv n co sv_keep sv_scaled), (wO2 n n_nodes n_kind n_pay n_name n_ways n_held n_targets n_weights), (wI g n_kind 0 12 n_fkind), (wI g n_pay 0 12 n_fpay), (wI g n_ways 0 12 n_fways), (wI g n_held 0 12 n_fheld), (wI g n_targets 0 36 n_ftargets), (wO10 vs vs_part vsw), (wJ g vs_part 1 12 vsp), (wI g sv_keep 0 12 kpf)]) [0, 1, 2, 3, 4, 5, 6, 7, 8, 9] rfl
  have hDc := hD.sub (ws' := [(wO6 sv n co sv_keep sv_scaled), (wO2 n n_nodes n_kind n_pay n_name n_ways n_held n_targets n_weights), (wI g n_kind 0 12 n_fkind), (wI g n_pay 0 12 n_fpay), (wI g n_ways 0 12 n_fways), (wI g n_held 0 12 n_fheld), (wI g n_targets 0 36 n_ftargets), (wO10 vs vs_part vsw), (wJ g vs_part 1 12 vsp), (wI g sv_keep 0 12 kpf)]) [0, 1, 2, 3, 4, 5, 6, 7, 8, 9] (by decide) rfl
  have hFc := va_free (wc := [(wO6 sv n co sv_keep sv_scaled), (wO2 n n_nodes n_kind n_pay n_name n_ways n_held n_targets n_weights), (wI g n_kind 0 12 n_fkind), (wI g n_pay 0 12 n_fpay), (wI g n_ways 0 12 n_fways), (wI g n_held 0 12 n_fheld), (wI g n_targets 0 36 n_ftargets), (wO10 vs vs_part vsw), (wJ g vs_part 1 12 vsp), (wI g sv_keep 0 12 kpf)]) hD hS hA [0, 1, 2, 3, 4, 5, 6, 7, 8, 9] rfl
  refine va_callv (va_runV (As := [.ref vs]) (rest := []) ⟨hx, hb, hml, hown, hts⟩ (c_X6_keepEven l D g s.heap.size sv vs n co sv_keep sv_scaled n_nodes n_kind n_pay n_name n_ways n_held n_targets n_weights n_fkind n_fpay n_fways n_fheld n_ftargets vs_part vsw vsp kpf (tr_w h_n_nodes (by decide) (by decide)) (tr_wa h_n_fkind (by decide) (by decide)) (tr_wa h_n_fways (by decide) (by decide)) (tr_wa h_n_fheld (by decide) (by decide)) (tr_wa h_n_ftargets (by decide) (by decide))) (cwV 1 hts (tz_gV qw_597 qw_598 qw_599 qw_558 qw_600) rfl rfl rfl (by decide +kernel) ⟨Nat.le_of_ble_eq_true rfl, Nat.le_of_ble_eq_true rfl⟩) ⟨tz_blQ, va_recv hK hPc (ci := 6) (q0 := 0) rfl rfl, tz_preQ hPc hK hDc⟩ rfl rfl hl.1 rfl (lv_room (Nat.le_of_ble_eq_true rfl)) dX6_findBest_2 ⟨Nat.le_of_ble_eq_true rfl, Nat.le_of_ble_eq_true rfl⟩) hS (fun q _ h => hFc q h) hFc (fun u t H1 locs ht hvm hw hB hz1 hk1 hS => ?_)
  obtain ⟨okp_90882, hP1, hD1⟩ := hB
  rw [ht] at hP1
  obtain ⟨hP, hD⟩ := va_join (wr := [(wI g pl 0 12 plf)]) (w1 := [(wO6 sv n co sv_keep sv_scaled), (wO2 n n_nodes n_kind n_pay n_name n_ways n_held n_targets n_weights), (wI g n_kind 0 12 n_fkind), (wI g n_pay 0 12 n_fpay), (wI g n_ways 0 12 n_fways), (wI g n_held 0 12 n_fheld), (wI g n_targets 0 36 n_ftargets), (wO10 vs vs_part vsw), (wJ g vs_part 1 12 vsp), (wI g sv_keep 0 12 okp_90882)]) hP hD [0, 1, 2, 3, 4, 5, 6, 7, 8, 9] [10] rfl rfl (by decide) (by decide) hk1 hFc hP1 hD1
  generalize H1 = H at hP hS ⊢
  have hP : va_P D vwCl [(wI g pl 0 12 plf), (wO6 sv n co sv_keep sv_scaled), (wO2 n n_nodes n_kind n_pay n_name n_ways n_held n_targets n_weights), (wI g n_kind 0 12 n_fkind), (wI g n_pay 0 12 n_fpay), (wI g n_ways 0 12 n_fways), (wI g n_held 0 12 n_fheld), (wI g n_targets 0 36 n_ftargets), (wO10 vs vs_part vsw), (wJ g vs_part 1 12 vsp), (wI g sv_keep 0 12 okp_90882)] H := hP
  have hD : va_D A [(wI g pl 0 12 plf), (wO6 sv n co sv_keep sv_scaled), (wO2 n n_nodes n_kind n_pay n_name n_ways n_held n_targets n_weights), (wI g n_kind 0 12 n_fkind), (wI g n_pay 0 12 n_fpay), (wI g n_ways 0 12 n_fways), (wI g n_held 0 12 n_fheld), (wI g n_targets 0 36 n_ftargets), (wO10 vs vs_part vsw), (wJ g vs_part 1 12 vsp), (wI g sv_keep 0 12 okp_90882)] := hD
  refine lv_iconst (v := 0) hx hb dX6_findBest_5 (by decide) ?_
  refine lv_istore_n (lv' := [(3, .int 0), (0, .ref sv), (1, .ref vs), (2, .ref pl)]) hx hb dX6_findBest_6 rfl hl (by decide) rfl (fun ls hl => ?_)
  have lp_91088 : ∀ (n_91088 : Nat) (x_91085 : Int32) (f_91086 : Nat → Int32) (f_91087 : Nat → Int32) (H : Heap) (locs : List Loc) (ls : Array Slot), (0 ≤ (x_91085 : Int32).toInt ∧ (x_91085 : Int32).toInt ≤ 12) → (∀ j : Nat, 0 ≤ (f_91086 j).toInt ∧ (f_91086 j).toInt ≤ 2) → (12 - x_91085.toInt < (n_91088 : Int)) → va_P D vwCl [(wI g pl 0 12 f_91086), (wO6 sv n co sv_keep sv_scaled), (wO2 n n_nodes n_kind n_pay n_name n_ways n_held n_targets n_weights), (wI g n_kind 0 12 n_fkind), (wI g n_pay 0 12 n_fpay), (wI g n_ways 0 12 n_fways), (wI g n_held 0 12 n_fheld), (wI g n_targets 0 36 n_ftargets), (wO10 vs vs_part vsw), (wJ g vs_part 1 12 vsp), (wI g sv_keep 0 12 f_91087)] H → va_D A [(wI g pl 0 12 f_91086), (wO6 sv n co sv_keep sv_scaled), (wO2 n n_nodes n_kind n_pay n_name n_ways n_held n_targets n_weights), (wI g n_kind 0 12 n_fkind), (wI g n_pay 0 12 n_fpay), (wI g n_ways 0 12 n_fways), (wI g n_held 0 12 n_fheld), (wI g n_targets 0 36 n_ftargets), (wO10 vs vs_part vsw), (wJ g vs_part 1 12 vsp), (wI g sv_keep 0 12 f_91087)] → va_S A s.heap H locs → lv_has ls 4 [(3, .int x_91085), (0, .ref sv), (1, .ref vs), (2, .ref pl)] → W p l e (headSpec (.code yX6_findBest cX6_findBest 4 none :: wsL_law) ({ frames := 4, cells := 0, slots := 0, locals := 100 })).room s m args below meth c H locs 0 0 (MQ below (va_Qv (fun (_ : Unit) => True) (fun _ t => ∃ okp : Nat → Int32, ∃ opl : Nat → Int32, (∀ j : Nat, 0 ≤ (opl j).toInt ∧ (opl j).toInt ≤ 2) ∧ va_P D vwCl [(wO6 sv n co sv_keep sv_scaled), (wO2 n n_nodes n_kind n_pay n_name n_ways n_held n_targets n_weights), (wI g n_kind 0 12 n_fkind), (wI g n_pay 0 12 n_fpay), (wI g n_ways 0 12 n_fways), (wI g n_held 0 12 n_fheld), (wI g n_targets 0 36 n_ftargets), (wO10 vs vs_part vsw), (wJ g vs_part 1 12 vsp), (wI g sv_keep 0 12 okp), (wI g pl 0 12 opl)] t.heap ∧ va_D A [(wO6 sv n co sv_keep sv_scaled), (wO2 n n_nodes n_kind n_pay n_name n_ways n_held n_targets n_weights), (wI g n_kind 0 12 n_fkind), (wI g n_pay 0 12 n_fpay), (wI g n_ways 0 12 n_fways), (wI g n_held 0 12 n_fheld), (wI g n_targets 0 36 n_ftargets), (wO10 vs vs_part vsw), (wJ g vs_part 1 12 vsp), (wI g sv_keep 0 12 okp), (wI g pl 0 12 opl)]) A) args s 0 0 A) (F0 m 7 ls []) := by
    intro n_91088
    induction n_91088 with
    | zero =>
      intro x_91085 f_91086 f_91087 H locs ls h_x_91085 h_f_91086 hm_91088 hP hD hS hl
      exfalso; omega
    | succ n_91088 ih_91088 =>
      intro x_91085 f_91086 f_91087 H locs ls h_x_91085 h_f_91086 hm_91088 hP hD hS hl
      refine lv_iload_n hx hb dX6_findBest_7 rfl (lv_at hl 0 rfl) ?_
      refine lv_aload_n hx hb dX6_findBest_8 rfl (lv_at hl 1 rfl) ?_
      refine va_get (D := D) (ci := 6) (v := .ref n) (C := RX6) (T := TX6) (N := 4) hx hb hts inlX6 hown hK hP 1 rfl rfl 0 (by decide) (hts (Cond.fieldLink RX6 19 "ChanceRings$Solver" "net" "LChanceRings$Net;") qw_548) (fun _ h9 => h9) rfl dX6_findBest_9 ?_
      refine va_get (D := D) (ci := 2) (v := .int n_nodes) (C := RX2) (T := TX2) (N := 8) hx hb hts inlX2 hown hK hP 2 rfl rfl 0 (by decide) (hts (Cond.fieldLink RX6 32 "ChanceRings$Net" "nodes" "I") qw_549) (fun _ h9 => h9) rfl dX6_findBest_12 ?_
      refine lv_icmp_ge (tgt := 88) hx hb dX6_findBest_15 (by decide) (fun c_91089 => ?_) (fun c_91089 => ?_)
      · skip
        have hP9 := hP.sub (ws' := [(wO6 sv n co sv_keep sv_scaled), (wO2 n n_nodes n_kind n_pay n_name n_ways n_held n_targets n_weights), (wI g n_kind 0 12 n_fkind), (wI g n_pay 0 12 n_fpay), (wI g n_ways 0 12 n_fways), (wI g n_held 0 12 n_fheld), (wI g n_targets 0 36 n_ftargets), (wO10 vs vs_part vsw), (wJ g vs_part 1 12 vsp), (wI g sv_keep 0 12 f_91087), (wI g pl 0 12 f_91086)]) [1, 2, 3, 4, 5, 6, 7, 8, 9, 10, 0] rfl
        have hD9 := hD.sub (ws' := [(wO6 sv n co sv_keep sv_scaled), (wO2 n n_nodes n_kind n_pay n_name n_ways n_held n_targets n_weights), (wI g n_kind 0 12 n_fkind), (wI g n_pay 0 12 n_fpay), (wI g n_ways 0 12 n_fways), (wI g n_held 0 12 n_fheld), (wI g n_targets 0 36 n_ftargets), (wO10 vs vs_part vsw), (wJ g vs_part 1 12 vsp), (wI g sv_keep 0 12 f_91087), (wI g pl 0 12 f_91086)]) [1, 2, 3, 4, 5, 6, 7, 8, 9, 10, 0] (by decide) rfl
        exact W.vret hx hb hr (fun t ht hW => ⟨⟨(), rfl, trivial, f_91087, f_91086, (tr_wa h_f_91086 (by decide) (by decide)), by rw [ht]; exact hP9, hD9⟩, hS.F ht⟩) hS.2.2 dX6_findBest_88
      · skip
        have c_91089_i := Int32.lt_iff_toInt_lt.mp (Int32.not_le.mp c_91089)
        have h_91090 : 0 ≤ (x_91085 : Int32).toInt ∧ (x_91085 : Int32).toInt ≤ 11 := nr_lt_l h_x_91085 h_n_nodes c_91089_i (by decide) (by decide)
        have h_91091 : 1 ≤ (n_nodes : Int32).toInt ∧ (n_nodes : Int32).toInt ≤ 12 := nr_lt_r h_x_91085 h_n_nodes c_91089_i (by decide) (by decide)
        refine lv_aload_n hx hb dX6_findBest_18 rfl (lv_at hl 1 rfl) ?_
        refine va_get (D := D) (ci := 6) (v := .ref n) (C := RX6) (T := TX6) (N := 4) hx hb hts inlX6 hown hK hP 1 rfl rfl 0 (by decide) (hts (Cond.fieldLink RX6 19 "ChanceRings$Solver" "net" "LChanceRings$Net;") qw_548) (fun _ h9 => h9) rfl dX6_findBest_19 ?_
        refine va_get (D := D) (ci := 2) (v := .ref n_kind) (C := RX2) (T := TX2) (N := 8) hx hb hts inlX2 hown hK hP 2 rfl rfl 1 (by decide) (hts (Cond.fieldLink RX6 61 "ChanceRings$Net" "kind" "[I") qw_551) (fun _ h9 => h9) rfl dX6_findBest_22 ?_
        refine lv_iload_n hx hb dX6_findBest_25 rfl (lv_at hl 0 rfl) ?_
        refine va_iald hx hb hK hP 3 0 rfl rfl (tr_in h_91090 (by decide) (by decide)) dX6_findBest_26 ?_
        refine lv_topi (fun v_91092 v_91092_e => ?_)
        have h_v_91092 : 0 ≤ (v_91092 : Int32).toInt ∧ (v_91092 : Int32).toInt ≤ 3 := by rw [v_91092_e]; exact h_n_fkind _
        refine lv_iconst (v := 2) hx hb dX6_findBest_27 (by decide) ?_
        refine lv_icmp_ne (tgt := 46) hx hb dX6_findBest_28 (by decide) (fun c_91093 => ?_) (fun c_91093 => ?_)
        · skip
          refine lv_aload_n hx hb dX6_findBest_46 rfl (lv_at hl 1 rfl) ?_
          refine va_get (D := D) (ci := 6) (v := .ref n) (C := RX6) (T := TX6) (N := 4) hx hb hts inlX6 hown hK hP 1 rfl rfl 0 (by decide) (hts (Cond.fieldLink RX6 19 "ChanceRings$Solver" "net" "LChanceRings$Net;") qw_548) (fun _ h9 => h9) rfl dX6_findBest_47 ?_
          refine va_get (D := D) (ci := 2) (v := .ref n_kind) (C := RX2) (T := TX2) (N := 8) hx hb hts inlX2 hown hK hP 2 rfl rfl 1 (by decide) (hts (Cond.fieldLink RX6 61 "ChanceRings$Net" "kind" "[I") qw_551) (fun _ h9 => h9) rfl dX6_findBest_50 ?_
          refine lv_iload_n hx hb dX6_findBest_53 rfl (lv_at hl 0 rfl) ?_
          refine va_iald hx hb hK hP 3 0 rfl rfl (tr_in h_91090 (by decide) (by decide)) dX6_findBest_54 ?_
          refine tz_i (y := v_91092) v_91092_e.symm ?_
          refine lv_iconst (v := 1) hx hb dX6_findBest_55 (by decide) ?_
          refine lv_icmp_ne (tgt := 82) hx hb dX6_findBest_56 (by decide) (fun c_91095 => ?_) (fun c_91095 => ?_)
          · skip
            obtain ⟨v_91097, v_91097_e⟩ : ∃ y : Int32, y = x_91085 + Int32.ofInt 1 := ⟨_, rfl⟩
            have h_v_91097 : 1 ≤ (v_91097 : Int32).toInt ∧ (v_91097 : Int32).toInt ≤ 12 := by rw [v_91097_e]; exact tr_add h_91090 (⟨by decide, by decide⟩ : 1 ≤ (Int32.ofInt 1 : Int32).toInt ∧ (Int32.ofInt 1 : Int32).toInt ≤ 1) (by decide) (by decide) (by decide) (by decide)
            have q_v_91097 : v_91097.toInt = x_91085.toInt + 1 := by rw [v_91097_e]; exact tr_addE h_91090 (⟨by decide, by decide⟩ : 1 ≤ (Int32.ofInt 1 : Int32).toInt ∧ (Int32.ofInt 1 : Int32).toInt ≤ 1) (by decide) (by decide)
            refine lv_iinc (v := v_91097) (lv' := [(3, .int v_91097), (0, .ref sv), (1, .ref vs), (2, .ref pl)]) hx hb dX6_findBest_82 hl (k := 0) rfl v_91097_e.symm (by decide) rfl (fun ls hl => ?_)
            refine lv_goto (tgt := 7) hx hb dX6_findBest_85 (by decide) ?_
            exact ih_91088 v_91097 f_91086 f_91087 H _ ls (tr_w h_v_91097 (by decide) (by decide)) (tr_wa h_f_91086 (by decide) (by decide)) (by omega) (hP.sub [0, 1, 2, 3, 4, 5, 6, 7, 8, 9, 10] rfl) (hD.sub [0, 1, 2, 3, 4, 5, 6, 7, 8, 9, 10] (by decide) rfl) hS (lv_sub hl [0, 1, 2, 3] rfl)
          · skip
            have c_91095_i : (v_91092 : Int32).toInt = (1 : Int32).toInt := congrArg Int32.toInt c_91095
            have h_91096 : 1 ≤ (v_91092 : Int32).toInt ∧ (v_91092 : Int32).toInt ≤ 1 := nr_eq_l h_v_91092 (⟨by decide, by decide⟩ : 1 ≤ (1 : Int32).toInt ∧ (1 : Int32).toInt ≤ 1) c_91095_i (by decide) (by decide)
            refine lv_aload_n hx hb dX6_findBest_59 rfl (lv_at hl 3 rfl) ?_
            refine lv_iload_n hx hb dX6_findBest_60 rfl (lv_at hl 0 rfl) ?_
            refine lv_aload_n hx hb dX6_findBest_61 rfl (lv_at hl 1 rfl) ?_
            refine lv_iload_n hx hb dX6_findBest_62 rfl (lv_at hl 0 rfl) ?_
            refine lv_aload_n hx hb dX6_findBest_63 rfl (lv_at hl 2 rfl) ?_
            have hPc := hP.sub (ws' := [(wO6 sv n co sv_keep sv_scaled), (wO2 n n_nodes n_kind n_pay n_name n_ways n_held n_targets n_weights), (wI g n_kind 0 12 n_fkind), (wI g n_pay 0 12 n_fpay), (wI g n_ways 0 12 n_fways), (wI g n_held 0 12 n_fheld), (wI g n_targets 0 36 n_ftargets), (wO10 vs vs_part vsw), (wJ g vs_part 1 12 vsp), (wI g sv_keep 0 12 f_91087)]) [1, 2, 3, 4, 5, 6, 7, 8, 9, 10] rfl
            have hDc := hD.sub (ws' := [(wO6 sv n co sv_keep sv_scaled), (wO2 n n_nodes n_kind n_pay n_name n_ways n_held n_targets n_weights), (wI g n_kind 0 12 n_fkind), (wI g n_pay 0 12 n_fpay), (wI g n_ways 0 12 n_fways), (wI g n_held 0 12 n_fheld), (wI g n_targets 0 36 n_ftargets), (wO10 vs vs_part vsw), (wJ g vs_part 1 12 vsp), (wI g sv_keep 0 12 f_91087)]) [1, 2, 3, 4, 5, 6, 7, 8, 9, 10] (by decide) rfl
            have hFc := va_free (wc := [(wO6 sv n co sv_keep sv_scaled), (wO2 n n_nodes n_kind n_pay n_name n_ways n_held n_targets n_weights), (wI g n_kind 0 12 n_fkind), (wI g n_pay 0 12 n_fpay), (wI g n_ways 0 12 n_fways), (wI g n_held 0 12 n_fheld), (wI g n_targets 0 36 n_ftargets), (wO10 vs vs_part vsw), (wJ g vs_part 1 12 vsp), (wI g sv_keep 0 12 f_91087)]) hD hS hA [1, 2, 3, 4, 5, 6, 7, 8, 9, 10] rfl
            refine va_calli (va_runV (As := [.int x_91085, .ref vs]) (rest := [.int x_91085, .ref pl]) ⟨hx, hb, hml, hown, hts⟩ (c_X6_goodOf l D g H.size sv x_91085 vs n co sv_keep sv_scaled n_nodes n_kind n_pay n_name n_ways n_held n_targets n_weights n_fkind n_fpay n_fways n_fheld n_ftargets vs_part vsw vsp f_91087 (tr_w h_91090 (by decide) (by decide)) (tr_w h_91091 (by decide) (by decide)) (tr_wa h_n_fkind (by decide) (by decide)) (tr_wa h_n_fways (by decide) (by decide)) (tr_wa h_n_fheld (by decide) (by decide)) (tr_wa h_n_ftargets (by decide) (by decide))) (cwV 2 hts (tz_gV qw_601 qw_602 qw_603 qw_558 qw_604) rfl rfl rfl (by decide +kernel) ⟨Nat.le_of_ble_eq_true rfl, Nat.le_of_ble_eq_true rfl⟩) ⟨tz_blQ, va_recv hK hPc (ci := 6) (q0 := 0) rfl rfl, tz_preQ hPc hK hDc⟩ rfl rfl hl.1 rfl (lv_room (Nat.le_of_ble_eq_true rfl)) dX6_findBest_64 ⟨Nat.le_of_ble_eq_true rfl, Nat.le_of_ble_eq_true rfl⟩) hS (fun q _ h => hFc q h) hFc (fun r_91098 u t H1 locs ht hvm hw hB hz1 hk1 hS => ?_)
            obtain ⟨okp_91099, hP1, hD1⟩ := hB
            rw [ht] at hP1
            obtain ⟨hP, hD⟩ := va_join (wr := [(wI g pl 0 12 f_91086)]) (w1 := [(wO6 sv n co sv_keep sv_scaled), (wO2 n n_nodes n_kind n_pay n_name n_ways n_held n_targets n_weights), (wI g n_kind 0 12 n_fkind), (wI g n_pay 0 12 n_fpay), (wI g n_ways 0 12 n_fways), (wI g n_held 0 12 n_fheld), (wI g n_targets 0 36 n_ftargets), (wO10 vs vs_part vsw), (wJ g vs_part 1 12 vsp), (wI g sv_keep 0 12 okp_91099)]) hP hD [1, 2, 3, 4, 5, 6, 7, 8, 9, 10] [0] rfl rfl (by decide) (by decide) hk1 hFc hP1 hD1
            generalize H1 = H at hP hS ⊢
            have hP : va_P D vwCl [(wI g pl 0 12 f_91086), (wO6 sv n co sv_keep sv_scaled), (wO2 n n_nodes n_kind n_pay n_name n_ways n_held n_targets n_weights), (wI g n_kind 0 12 n_fkind), (wI g n_pay 0 12 n_fpay), (wI g n_ways 0 12 n_fways), (wI g n_held 0 12 n_fheld), (wI g n_targets 0 36 n_ftargets), (wO10 vs vs_part vsw), (wJ g vs_part 1 12 vsp), (wI g sv_keep 0 12 okp_91099)] H := hP
            have hD : va_D A [(wI g pl 0 12 f_91086), (wO6 sv n co sv_keep sv_scaled), (wO2 n n_nodes n_kind n_pay n_name n_ways n_held n_targets n_weights), (wI g n_kind 0 12 n_fkind), (wI g n_pay 0 12 n_fpay), (wI g n_ways 0 12 n_fways), (wI g n_held 0 12 n_fheld), (wI g n_targets 0 36 n_ftargets), (wO10 vs vs_part vsw), (wJ g vs_part 1 12 vsp), (wI g sv_keep 0 12 okp_91099)] := hD
            have hPc := hP.sub (ws' := []) [] rfl
            refine vp_callSi (va_Run.run (va_runS (As := [.int r_91098]) (rest := [.int x_91085, .ref pl]) ⟨hx, hb, hml, hown, hts⟩ (c_X6_lowest l D g r_91098) (va_cwS 1 hts (tz_gS qw_605 qw_606 qw_558 qw_607) rfl rfl rfl (by decide +kernel) ⟨Nat.le_of_ble_eq_true rfl, Nat.le_of_ble_eq_true rfl⟩) ⟨tz_blS, tz_preS hPc hK⟩ rfl rfl hl.1 rfl (lv_room (Nat.le_of_ble_eq_true rfl)) dX6_findBest_67 ⟨Nat.le_of_ble_eq_true rfl, Nat.le_of_ble_eq_true rfl⟩)) (fun r_91100 hw => ?_)
            have hw_91101 : 0 ≤ (r_91100 : Int32).toInt ∧ (r_91100 : Int32).toInt ≤ 2 := hw
            refine va_iast hx hb hK hP hD hS 0 0 rfl rfl (tr_in h_91090 (by decide) (by decide)) dX6_findBest_70 (fun H locs hP hD hS => ?_)
            obtain ⟨f_91102, h_f_91102, hP, hD⟩ : ∃ FX : Nat → Int32, (∀ j : Nat, 0 ≤ (FX j).toInt ∧ (FX j).toInt ≤ 2) ∧ va_P D vwCl [(wI g pl 0 12 FX), (wO6 sv n co sv_keep sv_scaled), (wO2 n n_nodes n_kind n_pay n_name n_ways n_held n_targets n_weights), (wI g n_kind 0 12 n_fkind), (wI g n_pay 0 12 n_fpay), (wI g n_ways 0 12 n_fways), (wI g n_held 0 12 n_fheld), (wI g n_targets 0 36 n_ftargets), (wO10 vs vs_part vsw), (wJ g vs_part 1 12 vsp), (wI g sv_keep 0 12 okp_91099)] H ∧ va_D A [(wI g pl 0 12 FX), (wO6 sv n co sv_keep sv_scaled), (wO2 n n_nodes n_kind n_pay n_name n_ways n_held n_targets n_weights), (wI g n_kind 0 12 n_fkind), (wI g n_pay 0 12 n_fpay), (wI g n_ways 0 12 n_fways), (wI g n_held 0 12 n_fheld), (wI g n_targets 0 36 n_ftargets), (wO10 vs vs_part vsw), (wJ g vs_part 1 12 vsp), (wI g sv_keep 0 12 okp_91099)] := ⟨_, tr_upd h_f_91086 (tr_w hw_91101 (by decide) (by decide)), hP, hD⟩
            have hP : va_P D vwCl [(wI g pl 0 12 f_91102), (wO6 sv n co sv_keep sv_scaled), (wO2 n n_nodes n_kind n_pay n_name n_ways n_held n_targets n_weights), (wI g n_kind 0 12 n_fkind), (wI g n_pay 0 12 n_fpay), (wI g n_ways 0 12 n_fways), (wI g n_held 0 12 n_fheld), (wI g n_targets 0 36 n_ftargets), (wO10 vs vs_part vsw), (wJ g vs_part 1 12 vsp), (wI g sv_keep 0 12 okp_91099)] H := hP
            have hD : va_D A [(wI g pl 0 12 f_91102), (wO6 sv n co sv_keep sv_scaled), (wO2 n n_nodes n_kind n_pay n_name n_ways n_held n_targets n_weights), (wI g n_kind 0 12 n_fkind), (wI g n_pay 0 12 n_fpay), (wI g n_ways 0 12 n_fways), (wI g n_held 0 12 n_fheld), (wI g n_targets 0 36 n_ftargets), (wO10 vs vs_part vsw), (wJ g vs_part 1 12 vsp), (wI g sv_keep 0 12 okp_91099)] := hD
            refine lv_aload_n hx hb dX6_findBest_71 rfl (lv_at hl 1 rfl) ?_
            refine va_get (D := D) (ci := 6) (v := .ref sv_keep) (C := RX6) (T := TX6) (N := 4) hx hb hts inlX6 hown hK hP 1 rfl rfl 2 (by decide) (hts (Cond.fieldLink RX6 9 "ChanceRings$Solver" "keep" "[I") qw_587) (fun _ h9 => h9) rfl dX6_findBest_72 ?_
            refine lv_iload_n hx hb dX6_findBest_75 rfl (lv_at hl 0 rfl) ?_
            refine lv_iconst (v := 1) hx hb dX6_findBest_76 (by decide) ?_
            refine lv_aload_n hx hb dX6_findBest_77 rfl (lv_at hl 3 rfl) ?_
            refine lv_iload_n hx hb dX6_findBest_78 rfl (lv_at hl 0 rfl) ?_
            refine va_iald hx hb hK hP 0 0 rfl rfl (tr_in h_91090 (by decide) (by decide)) dX6_findBest_79 ?_
            refine lv_topi (fun v_91103 v_91103_e => ?_)
            have h_v_91103 : 0 ≤ (v_91103 : Int32).toInt ∧ (v_91103 : Int32).toInt ≤ 2 := by rw [v_91103_e]; exact h_f_91102 _
            refine lv_ishl hx hb dX6_findBest_80 ?_
            refine lv_topi (fun v_91104 v_91104_e => ?_)
            refine va_iast hx hb hK hP hD hS 10 0 rfl rfl (tr_in h_91090 (by decide) (by decide)) dX6_findBest_81 (fun H locs hP hD hS => ?_)
            obtain ⟨f_91105, hP, hD⟩ : ∃ FX : Nat → Int32, va_P D vwCl [(wI g pl 0 12 f_91102), (wO6 sv n co sv_keep sv_scaled), (wO2 n n_nodes n_kind n_pay n_name n_ways n_held n_targets n_weights), (wI g n_kind 0 12 n_fkind), (wI g n_pay 0 12 n_fpay), (wI g n_ways 0 12 n_fways), (wI g n_held 0 12 n_fheld), (wI g n_targets 0 36 n_ftargets), (wO10 vs vs_part vsw), (wJ g vs_part 1 12 vsp), (wI g sv_keep 0 12 FX)] H ∧ va_D A [(wI g pl 0 12 f_91102), (wO6 sv n co sv_keep sv_scaled), (wO2 n n_nodes n_kind n_pay n_name n_ways n_held n_targets n_weights), (wI g n_kind 0 12 n_fkind), (wI g n_pay 0 12 n_fpay), (wI g n_ways 0 12 n_fways), (wI g n_held 0 12 n_fheld), (wI g n_targets 0 36 n_ftargets), (wO10 vs vs_part vsw), (wJ g vs_part 1 12 vsp), (wI g sv_keep 0 12 FX)] := ⟨_, hP, hD⟩
            have hP : va_P D vwCl [(wI g pl 0 12 f_91102), (wO6 sv n co sv_keep sv_scaled), (wO2 n n_nodes n_kind n_pay n_name n_ways n_held n_targets n_weights), (wI g n_kind 0 12 n_fkind), (wI g n_pay 0 12 n_fpay), (wI g n_ways 0 12 n_fways), (wI g n_held 0 12 n_fheld), (wI g n_targets 0 36 n_ftargets), (wO10 vs vs_part vsw), (wJ g vs_part 1 12 vsp), (wI g sv_keep 0 12 f_91105)] H := hP
            have hD : va_D A [(wI g pl 0 12 f_91102), (wO6 sv n co sv_keep sv_scaled), (wO2 n n_nodes n_kind n_pay n_name n_ways n_held n_targets n_weights), (wI g n_kind 0 12 n_fkind), (wI g n_pay 0 12 n_fpay), (wI g n_ways 0 12 n_fways), (wI g n_held 0 12 n_fheld), (wI g n_targets 0 36 n_ftargets), (wO10 vs vs_part vsw), (wJ g vs_part 1 12 vsp), (wI g sv_keep 0 12 f_91105)] := hD
            obtain ⟨v_91106, v_91106_e⟩ : ∃ y : Int32, y = x_91085 + Int32.ofInt 1 := ⟨_, rfl⟩
            have h_v_91106 : 1 ≤ (v_91106 : Int32).toInt ∧ (v_91106 : Int32).toInt ≤ 12 := by rw [v_91106_e]; exact tr_add h_91090 (⟨by decide, by decide⟩ : 1 ≤ (Int32.ofInt 1 : Int32).toInt ∧ (Int32.ofInt 1 : Int32).toInt ≤ 1) (by decide) (by decide) (by decide) (by decide)
            have q_v_91106 : v_91106.toInt = x_91085.toInt + 1 := by rw [v_91106_e]; exact tr_addE h_91090 (⟨by decide, by decide⟩ : 1 ≤ (Int32.ofInt 1 : Int32).toInt ∧ (Int32.ofInt 1 : Int32).toInt ≤ 1) (by decide) (by decide)
            refine lv_iinc (v := v_91106) (lv' := [(3, .int v_91106), (0, .ref sv), (1, .ref vs), (2, .ref pl)]) hx hb dX6_findBest_82 hl (k := 0) rfl v_91106_e.symm (by decide) rfl (fun ls hl => ?_)
            refine lv_goto (tgt := 7) hx hb dX6_findBest_85 (by decide) ?_
            exact ih_91088 v_91106 f_91102 f_91105 H _ ls (tr_w h_v_91106 (by decide) (by decide)) (tr_wa h_f_91102 (by decide) (by decide)) (by (first | (clear h_f_91086 h_v_91092 c_91095_i h_91096 hw_91101 h_v_91103; omega) | omega)) (hP.sub [0, 1, 2, 3, 4, 5, 6, 7, 8, 9, 10] rfl) (hD.sub [0, 1, 2, 3, 4, 5, 6, 7, 8, 9, 10] (by decide) rfl) hS (lv_sub hl [0, 1, 2, 3] rfl)
        · skip
          have c_91093_i : (v_91092 : Int32).toInt = (2 : Int32).toInt := congrArg Int32.toInt c_91093
          have h_91094 : 2 ≤ (v_91092 : Int32).toInt ∧ (v_91092 : Int32).toInt ≤ 2 := nr_eq_l h_v_91092 (⟨by decide, by decide⟩ : 2 ≤ (2 : Int32).toInt ∧ (2 : Int32).toInt ≤ 2) c_91093_i (by decide) (by decide)
          refine lv_aload_n hx hb dX6_findBest_31 rfl (lv_at hl 3 rfl) ?_
          refine lv_iload_n hx hb dX6_findBest_32 rfl (lv_at hl 0 rfl) ?_
          refine lv_aload_n hx hb dX6_findBest_33 rfl (lv_at hl 1 rfl) ?_
          refine va_get (D := D) (ci := 6) (v := .ref sv_keep) (C := RX6) (T := TX6) (N := 4) hx hb hts inlX6 hown hK hP 1 rfl rfl 2 (by decide) (hts (Cond.fieldLink RX6 9 "ChanceRings$Solver" "keep" "[I") qw_587) (fun _ h9 => h9) rfl dX6_findBest_34 ?_
          refine lv_iload_n hx hb dX6_findBest_37 rfl (lv_at hl 0 rfl) ?_
          refine va_iald hx hb hK hP 10 0 rfl rfl (tr_in h_91090 (by decide) (by decide)) dX6_findBest_38 ?_
          refine lv_topi (fun v_91107 v_91107_e => ?_)
          have hPc := hP.sub (ws' := []) [] rfl
          refine vp_callSi (va_Run.run (va_runS (As := [.int v_91107]) (rest := [.int x_91085, .ref pl]) ⟨hx, hb, hml, hown, hts⟩ (c_X6_lowest l D g v_91107) (va_cwS 1 hts (tz_gS qw_605 qw_606 qw_558 qw_607) rfl rfl rfl (by decide +kernel) ⟨Nat.le_of_ble_eq_true rfl, Nat.le_of_ble_eq_true rfl⟩) ⟨tz_blS, tz_preS hPc hK⟩ rfl rfl hl.1 rfl (lv_room (Nat.le_of_ble_eq_true rfl)) dX6_findBest_39 ⟨Nat.le_of_ble_eq_true rfl, Nat.le_of_ble_eq_true rfl⟩)) (fun r_91108 hw => ?_)
          have hw_91109 : 0 ≤ (r_91108 : Int32).toInt ∧ (r_91108 : Int32).toInt ≤ 2 := hw
          refine va_iast hx hb hK hP hD hS 0 0 rfl rfl (tr_in h_91090 (by decide) (by decide)) dX6_findBest_42 (fun H locs hP hD hS => ?_)
          obtain ⟨f_91110, h_f_91110, hP, hD⟩ : ∃ FX : Nat → Int32, (∀ j : Nat, 0 ≤ (FX j).toInt ∧ (FX j).toInt ≤ 2) ∧ va_P D vwCl [(wI g pl 0 12 FX), (wO6 sv n co sv_keep sv_scaled), (wO2 n n_nodes n_kind n_pay n_name n_ways n_held n_targets n_weights), (wI g n_kind 0 12 n_fkind), (wI g n_pay 0 12 n_fpay), (wI g n_ways 0 12 n_fways), (wI g n_held 0 12 n_fheld), (wI g n_targets 0 36 n_ftargets), (wO10 vs vs_part vsw), (wJ g vs_part 1 12 vsp), (wI g sv_keep 0 12 f_91087)] H ∧ va_D A [(wI g pl 0 12 FX), (wO6 sv n co sv_keep sv_scaled), (wO2 n n_nodes n_kind n_pay n_name n_ways n_held n_targets n_weights), (wI g n_kind 0 12 n_fkind), (wI g n_pay 0 12 n_fpay), (wI g n_ways 0 12 n_fways), (wI g n_held 0 12 n_fheld), (wI g n_targets 0 36 n_ftargets), (wO10 vs vs_part vsw), (wJ g vs_part 1 12 vsp), (wI g sv_keep 0 12 f_91087)] := ⟨_, tr_upd h_f_91086 (tr_w hw_91109 (by decide) (by decide)), hP, hD⟩
          have hP : va_P D vwCl [(wI g pl 0 12 f_91110), (wO6 sv n co sv_keep sv_scaled), (wO2 n n_nodes n_kind n_pay n_name n_ways n_held n_targets n_weights), (wI g n_kind 0 12 n_fkind), (wI g n_pay 0 12 n_fpay), (wI g n_ways 0 12 n_fways), (wI g n_held 0 12 n_fheld), (wI g n_targets 0 36 n_ftargets), (wO10 vs vs_part vsw), (wJ g vs_part 1 12 vsp), (wI g sv_keep 0 12 f_91087)] H := hP
          have hD : va_D A [(wI g pl 0 12 f_91110), (wO6 sv n co sv_keep sv_scaled), (wO2 n n_nodes n_kind n_pay n_name n_ways n_held n_targets n_weights), (wI g n_kind 0 12 n_fkind), (wI g n_pay 0 12 n_fpay), (wI g n_ways 0 12 n_fways), (wI g n_held 0 12 n_fheld), (wI g n_targets 0 36 n_ftargets), (wO10 vs vs_part vsw), (wJ g vs_part 1 12 vsp), (wI g sv_keep 0 12 f_91087)] := hD
          refine lv_goto (tgt := 82) hx hb dX6_findBest_43 (by decide) ?_
          obtain ⟨v_91111, v_91111_e⟩ : ∃ y : Int32, y = x_91085 + Int32.ofInt 1 := ⟨_, rfl⟩
          have h_v_91111 : 1 ≤ (v_91111 : Int32).toInt ∧ (v_91111 : Int32).toInt ≤ 12 := by rw [v_91111_e]; exact tr_add h_91090 (⟨by decide, by decide⟩ : 1 ≤ (Int32.ofInt 1 : Int32).toInt ∧ (Int32.ofInt 1 : Int32).toInt ≤ 1) (by decide) (by decide) (by decide) (by decide)
          have q_v_91111 : v_91111.toInt = x_91085.toInt + 1 := by rw [v_91111_e]; exact tr_addE h_91090 (⟨by decide, by decide⟩ : 1 ≤ (Int32.ofInt 1 : Int32).toInt ∧ (Int32.ofInt 1 : Int32).toInt ≤ 1) (by decide) (by decide)
          refine lv_iinc (v := v_91111) (lv' := [(3, .int v_91111), (0, .ref sv), (1, .ref vs), (2, .ref pl)]) hx hb dX6_findBest_82 hl (k := 0) rfl v_91111_e.symm (by decide) rfl (fun ls hl => ?_)
          refine lv_goto (tgt := 7) hx hb dX6_findBest_85 (by decide) ?_
          exact ih_91088 v_91111 f_91110 f_91087 H _ ls (tr_w h_v_91111 (by decide) (by decide)) (tr_wa h_f_91110 (by decide) (by decide)) (by (first | (clear h_f_91086 h_v_91092 c_91093_i h_91094 hw_91109; omega) | omega)) (hP.sub [0, 1, 2, 3, 4, 5, 6, 7, 8, 9, 10] rfl) (hD.sub [0, 1, 2, 3, 4, 5, 6, 7, 8, 9, 10] (by decide) rfl) hS (lv_sub hl [0, 1, 2, 3] rfl)
  exact lp_91088 13 0 plf okp_90882 H _ ls (⟨by decide, by decide⟩ : 0 ≤ (0 : Int32).toInt ∧ (0 : Int32).toInt ≤ 12) (tr_wa h_plf (by decide) (by decide)) (by decide) (hP.sub [0, 1, 2, 3, 4, 5, 6, 7, 8, 9, 10] rfl) (hD.sub [0, 1, 2, 3, 4, 5, 6, 7, 8, 9, 10] (by decide) rfl) hS (lv_sub hl [0, 1, 2, 3] rfl)
set_option maxHeartbeats 4000000 in
set_option maxRecDepth 100000 in
theorem c_X6_oneMoveMore (l : Launch) (D : va_G) (g : Nat → ClassId) (sv : Nat) (p0 : Int32) (vs : Nat) (n : Nat) (co : Nat) (sv_keep : Nat) (sv_scaled : Nat) (n_nodes : Int32) (n_kind : Nat) (n_pay : Nat) (n_name : Nat) (n_ways : Nat) (n_held : Nat) (n_targets : Nat) (n_weights : Nat) (n_fkind : Nat → Int32) (n_fways : Nat → Int32) (n_fheld : Nat → Int32) (n_ftargets : Nat → Int32) (n_fweights : Nat → Int32) (vs_part : Nat) (vsw : Int64) (vsp : Nat → Int64) (h_p0 : 0 ≤ (p0 : Int32).toInt ∧ (p0 : Int32).toInt ≤ 11) (h_n_nodes : 0 ≤ (n_nodes : Int32).toInt ∧ (n_nodes : Int32).toInt ≤ 12) (h_n_fkind : ∀ j : Nat, 0 ≤ (n_fkind j).toInt ∧ (n_fkind j).toInt ≤ 3) (h_n_fways : ∀ j : Nat, 0 ≤ (n_fways j).toInt ∧ (n_fways j).toInt ≤ 3) (h_n_fheld : ∀ j : Nat, (-1) ≤ (n_fheld j).toInt ∧ (n_fheld j).toInt ≤ 2) (h_n_ftargets : ∀ j : Nat, 0 ≤ (n_ftargets j).toInt ∧ (n_ftargets j).toInt ≤ 11) : Met l yX6_oneMoveMore (.code yX6_oneMoveMore cX6_oneMoveMore 6 (some .long) :: wsL_law) ({ frames := 2, cells := 0, slots := 0, locals := 50 }) (va_Pc [.ref sv, .int p0, .ref vs] (fun U => va_P D vwCl [(wO6 sv n co sv_keep sv_scaled), (wO2 n n_nodes n_kind n_pay n_name n_ways n_held n_targets n_weights), (wI g n_kind 0 12 n_fkind), (wI g n_ways 0 12 n_fways), (wI g n_held 0 12 n_fheld), (wI g n_targets 0 36 n_ftargets), (wI g n_weights 0 36 n_fweights), (wO10 vs vs_part vsw), (wJ g vs_part 1 12 vsp)] U.heap ∧ va_K D vwCl (TY g) U)) (vp_Sl (fun r => True)) 0 0 (fun _ => False) := by
  refine Met.ofW (cc := cX6_oneMoveMore) (maxL := 6) (ret := (some .long)) (by decide) rfl ?_
  intro p e s m args below meth c s₁ B hml hv
  obtain ⟨ha, hP, hK⟩ := hv
  have hx := B.exec
  have hb := B.bytes
  have hr := B.returns
  have hts0 := atoms_spec (ws := (.code yX6_oneMoveMore cX6_oneMoveMore 6 (some .long) :: wsL_law)) B.pre
  have hts : ∀ w ∈ wsL_law, w.before args s = true := fun w h => hts0 w (List.mem_cons_of_mem _ h)
  have hown : s.vm.findClass RX6 = some m.cls := findClass_of_methodNamed B.named
  have hlocks := B.notSynchronized
  have hP : va_P D vwCl [(wO6 sv n co sv_keep sv_scaled), (wO2 n n_nodes n_kind n_pay n_name n_ways n_held n_targets n_weights), (wI g n_kind 0 12 n_fkind), (wI g n_ways 0 12 n_fways), (wI g n_held 0 12 n_fheld), (wI g n_targets 0 36 n_ftargets), (wI g n_weights 0 36 n_fweights), (wO10 vs vs_part vsw), (wJ g vs_part 1 12 vsp)] s.heap := hP
  refine W.eq (g2 := entryFrame m ([.ref sv, .int p0, .ref vs] : List Value).toArray 6) (by rw [ha]) ?_
  have hl := lv_entry ([.ref sv, .int p0, .ref vs]) (n := 6) (Nat.le_of_ble_eq_true rfl)
  rw [lg_entry_eq]
  generalize (lg_sl ([.ref sv, .int p0, .ref vs]) ++ List.replicate (6 - (lg_sl ([.ref sv, .int p0, .ref vs])).length) Slot.unset).toArray = ls at hl ⊢
  have hl : lv_has ls 6 [(0, .ref sv), (1, .int p0), (2, .ref vs)] := hl
  refine lv_aload_n hx hb dX6_oneMoveMore_0 rfl (lv_at hl 0 rfl) ?_
  refine va_get (D := D) (ci := 6) (v := .ref n) (C := RX6) (T := TX6) (N := 4) hx hb hts inlX6 hown hK hP 0 rfl rfl 0 (by decide) (hts (Cond.fieldLink RX6 19 "ChanceRings$Solver" "net" "LChanceRings$Net;") qw_548) (fun _ h9 => h9) rfl dX6_oneMoveMore_1 ?_
  refine va_get (D := D) (ci := 2) (v := .ref n_kind) (C := RX2) (T := TX2) (N := 8) hx hb hts inlX2 hown hK hP 1 rfl rfl 1 (by decide) (hts (Cond.fieldLink RX6 61 "ChanceRings$Net" "kind" "[I") qw_551) (fun _ h9 => h9) rfl dX6_oneMoveMore_4 ?_
  refine lv_iload_n hx hb dX6_oneMoveMore_7 rfl (lv_at hl 1 rfl) ?_
  refine va_iald hx hb hK hP 2 0 rfl rfl (tr_in h_p0 (by decide) (by decide)) dX6_oneMoveMore_8 ?_
  refine lv_topi (fun v_91112 v_91112_e => ?_)
  have h_v_91112 : 0 ≤ (v_91112 : Int32).toInt ∧ (v_91112 : Int32).toInt ≤ 3 := by rw [v_91112_e]; exact h_n_fkind _
  refine lv_if_ne (tgt := 23) hx hb dX6_oneMoveMore_9 (by decide) (fun c_91113 => ?_) (fun c_91113 => ?_)
  · skip
    have c_91113_i : ¬ (v_91112 : Int32).toInt = (0 : Int32).toInt := (fun q => c_91113 (Int32.toInt_inj.mp q))
    have h_91114 : 1 ≤ (v_91112 : Int32).toInt ∧ (v_91112 : Int32).toInt ≤ 3 := nr_ne_l h_v_91112 (⟨by decide, by decide⟩ : 0 ≤ (0 : Int32).toInt ∧ (0 : Int32).toInt ≤ 0) c_91113_i (by decide) (by decide)
    refine lv_aload_n hx hb dX6_oneMoveMore_23 rfl (lv_at hl 0 rfl) ?_
    refine va_get (D := D) (ci := 6) (v := .ref n) (C := RX6) (T := TX6) (N := 4) hx hb hts inlX6 hown hK hP 0 rfl rfl 0 (by decide) (hts (Cond.fieldLink RX6 19 "ChanceRings$Solver" "net" "LChanceRings$Net;") qw_548) (fun _ h9 => h9) rfl dX6_oneMoveMore_24 ?_
    refine va_get (D := D) (ci := 2) (v := .ref n_kind) (C := RX2) (T := TX2) (N := 8) hx hb hts inlX2 hown hK hP 1 rfl rfl 1 (by decide) (hts (Cond.fieldLink RX6 61 "ChanceRings$Net" "kind" "[I") qw_551) (fun _ h9 => h9) rfl dX6_oneMoveMore_27 ?_
    refine lv_iload_n hx hb dX6_oneMoveMore_30 rfl (lv_at hl 1 rfl) ?_
    refine va_iald hx hb hK hP 2 0 rfl rfl (tr_in h_p0 (by decide) (by decide)) dX6_oneMoveMore_31 ?_
    refine tz_i (y := v_91112) v_91112_e.symm ?_
    refine lv_iconst (v := 3) hx hb dX6_oneMoveMore_32 (by decide) ?_
    refine lv_icmp_eq (tgt := 109) hx hb dX6_oneMoveMore_33 (by decide) (fun c_91116 => ?_) (fun c_91116 => ?_)
    · skip
      have c_91116_i : (v_91112 : Int32).toInt = (3 : Int32).toInt := congrArg Int32.toInt c_91116
      have h_91117 : 3 ≤ (v_91112 : Int32).toInt ∧ (v_91112 : Int32).toInt ≤ 3 := nr_eq_l h_91114 (⟨by decide, by decide⟩ : 3 ≤ (3 : Int32).toInt ∧ (3 : Int32).toInt ≤ 3) c_91116_i (by decide) (by decide)
      refine lv_lconst (v := 0) hx hb dX6_oneMoveMore_109 (by decide) ?_
      refine lv_lstore_n (lv' := [(3, .long 0), (0, .ref sv), (1, .int p0), (2, .ref vs)]) hx hb dX6_oneMoveMore_110 rfl hl (by decide) rfl (fun ls hl => ?_)
      refine lv_iconst (v := 0) hx hb dX6_oneMoveMore_111 (by decide) ?_
      refine lv_istore (lv' := [(5, .int 0), (3, .long 0), (0, .ref sv), (1, .int p0), (2, .ref vs)]) hx hb dX6_oneMoveMore_112 hl (by decide) rfl (fun ls hl => ?_)
      have lp_91198 : ∀ (n_91198 : Nat) (x_91196 : Int32) (x_91197 : Int64) (ls : Array Slot), (0 ≤ (x_91196 : Int32).toInt ∧ (x_91196 : Int32).toInt ≤ 3) → (3 - x_91196.toInt < (n_91198 : Int)) → lv_has ls 6 [(5, .int x_91196), (3, .long x_91197), (0, .ref sv), (1, .int p0), (2, .ref vs)] → W p l e (headSpec (.code yX6_oneMoveMore cX6_oneMoveMore 6 (some .long) :: wsL_law) ({ frames := 2, cells := 0, slots := 0, locals := 50 })).room s m args below meth c s.heap [] 0 0 (MQ below (vp_Sl (fun r => True)) args s 0 0 (fun _ => False)) (F0 m 114 ls []) := by
        intro n_91198
        induction n_91198 with
        | zero =>
          intro x_91196 x_91197 ls h_x_91196 hm_91198 hl
          exfalso; omega
        | succ n_91198 ih_91198 =>
          intro x_91196 x_91197 ls h_x_91196 hm_91198 hl
          refine lv_iload hx hb dX6_oneMoveMore_114 (lv_at hl 0 rfl) ?_
          refine lv_aload_n hx hb dX6_oneMoveMore_116 rfl (lv_at hl 2 rfl) ?_
          refine va_get (D := D) (ci := 6) (v := .ref n) (C := RX6) (T := TX6) (N := 4) hx hb hts inlX6 hown hK hP 0 rfl rfl 0 (by decide) (hts (Cond.fieldLink RX6 19 "ChanceRings$Solver" "net" "LChanceRings$Net;") qw_548) (fun _ h9 => h9) rfl dX6_oneMoveMore_117 ?_
          refine va_get (D := D) (ci := 2) (v := .ref n_ways) (C := RX2) (T := TX2) (N := 8) hx hb hts inlX2 hown hK hP 1 rfl rfl 4 (by decide) (hts (Cond.fieldLink RX6 68 "ChanceRings$Net" "ways" "[I") qw_552) (fun _ h9 => h9) rfl dX6_oneMoveMore_120 ?_
          refine lv_iload_n hx hb dX6_oneMoveMore_123 rfl (lv_at hl 3 rfl) ?_
          refine va_iald hx hb hK hP 3 0 rfl rfl (tr_in h_p0 (by decide) (by decide)) dX6_oneMoveMore_124 ?_
          refine lv_topi (fun v_91199 v_91199_e => ?_)
          have h_v_91199 : 0 ≤ (v_91199 : Int32).toInt ∧ (v_91199 : Int32).toInt ≤ 3 := by rw [v_91199_e]; exact h_n_fways _
          refine lv_icmp_ge (tgt := 164) hx hb dX6_oneMoveMore_125 (by decide) (fun c_91200 => ?_) (fun c_91200 => ?_)
          · skip
            refine lv_aload_n hx hb dX6_oneMoveMore_164 rfl (lv_at hl 2 rfl) ?_
            refine va_get (D := D) (ci := 6) (v := .ref n) (C := RX6) (T := TX6) (N := 4) hx hb hts inlX6 hown hK hP 0 rfl rfl 0 (by decide) (hts (Cond.fieldLink RX6 19 "ChanceRings$Solver" "net" "LChanceRings$Net;") qw_548) (fun _ h9 => h9) rfl dX6_oneMoveMore_165 ?_
            refine lv_iload_n hx hb dX6_oneMoveMore_168 rfl (lv_at hl 3 rfl) ?_
            have hPc := hP.sub (ws' := [(wO2 n n_nodes n_kind n_pay n_name n_ways n_held n_targets n_weights), (wI g n_kind 0 12 n_fkind), (wI g n_ways 0 12 n_fways), (wI g n_weights 0 36 n_fweights)]) [1, 2, 3, 6] rfl
            refine vp_callSi (va_Run.run (va_runV (As := [.int p0]) (rest := []) ⟨hx, hb, hml, hown, hts⟩ (c_X2_together l D g n p0 n_nodes n_kind n_pay n_name n_ways n_held n_targets n_weights n_fkind n_fways n_fweights (tr_w h_p0 (by decide) (by decide)) (tr_w h_n_nodes (by decide) (by decide)) (tr_wa h_n_fkind (by decide) (by decide)) (tr_wa h_n_fways (by decide) (by decide))) (cwV 1 hts (tz_gV qw_608 qw_445 qw_446 qw_322 qw_447) rfl rfl rfl (by decide +kernel) ⟨Nat.le_of_ble_eq_true rfl, Nat.le_of_ble_eq_true rfl⟩) ⟨tz_blS, va_recv hK hPc (ci := 2) (q0 := 0) rfl rfl, tz_preS hPc hK⟩ rfl rfl hl.1 rfl (lv_room (Nat.le_of_ble_eq_true rfl)) dX6_oneMoveMore_169 ⟨Nat.le_of_ble_eq_true rfl, Nat.le_of_ble_eq_true rfl⟩)) (fun r_91203 hw => ?_)
            refine lv_istore (lv' := [(5, .int r_91203), (3, .long x_91197), (0, .ref sv), (1, .int p0), (2, .ref vs)]) hx hb dX6_oneMoveMore_172 hl (by decide) rfl (fun ls hl => ?_)
            refine lv_iload hx hb dX6_oneMoveMore_174 (lv_at hl 0 rfl) ?_
            refine lv_if_ne (tgt := 183) hx hb dX6_oneMoveMore_176 (by decide) (fun c_91204 => ?_) (fun c_91204 => ?_)
            · skip
              refine lv_bipush (v := 12) hx hb dX6_oneMoveMore_183 (by decide) ?_
              refine lv_iload hx hb dX6_oneMoveMore_185 (lv_at hl 0 rfl) ?_
              refine lv_idiv hx hb dX6_oneMoveMore_187 c_91204 ?_
              refine lv_topi (fun v_91206 v_91206_e => ?_)
              refine lv_i2l hx hb dX6_oneMoveMore_188 rfl ?_
              refine lv_topl (fun w_91207 _ => ?_)
              refine lv_lload_n hx hb dX6_oneMoveMore_189 rfl (lv_at hl 1 rfl) ?_
              refine lv_lmul hx hb dX6_oneMoveMore_190 ?_
              refine lv_topl (fun w_91208 _ => ?_)
              exact W.lret (v := w_91208) hx hb hr (fun t ht hW => ⟨w_91208, rfl, trivial, ht⟩) (fun _ h => nomatch h) dX6_oneMoveMore_191
            · skip
              have h_91205 : 0 ≤ (r_91203 : Int32).toInt ∧ (r_91203 : Int32).toInt ≤ 0 := by rw [c_91204]; exact ⟨by decide, by decide⟩
              refine lv_lconst (v := 0) hx hb dX6_oneMoveMore_179 (by decide) ?_
              refine lv_goto (tgt := 191) hx hb dX6_oneMoveMore_180 (by decide) ?_
              exact W.lret (v := 0) hx hb hr (fun t ht hW => ⟨0, rfl, trivial, ht⟩) (fun _ h => nomatch h) dX6_oneMoveMore_191
          · skip
            have c_91200_i := Int32.lt_iff_toInt_lt.mp (Int32.not_le.mp c_91200)
            have h_91201 : 0 ≤ (x_91196 : Int32).toInt ∧ (x_91196 : Int32).toInt ≤ 2 := nr_lt_l h_x_91196 h_v_91199 c_91200_i (by decide) (by decide)
            have h_91202 : 1 ≤ (v_91199 : Int32).toInt ∧ (v_91199 : Int32).toInt ≤ 3 := nr_lt_r h_x_91196 h_v_91199 c_91200_i (by decide) (by decide)
            refine lv_lload_n hx hb dX6_oneMoveMore_128 rfl (lv_at hl 1 rfl) ?_
            refine lv_aload_n hx hb dX6_oneMoveMore_129 rfl (lv_at hl 2 rfl) ?_
            refine va_get (D := D) (ci := 6) (v := .ref n) (C := RX6) (T := TX6) (N := 4) hx hb hts inlX6 hown hK hP 0 rfl rfl 0 (by decide) (hts (Cond.fieldLink RX6 19 "ChanceRings$Solver" "net" "LChanceRings$Net;") qw_548) (fun _ h9 => h9) rfl dX6_oneMoveMore_130 ?_
            refine lv_iload_n hx hb dX6_oneMoveMore_133 rfl (lv_at hl 3 rfl) ?_
            refine lv_iload hx hb dX6_oneMoveMore_134 (lv_at hl 0 rfl) ?_
            have hPc := hP.sub (ws' := [(wO2 n n_nodes n_kind n_pay n_name n_ways n_held n_targets n_weights), (wI g n_weights 0 36 n_fweights)]) [1, 6] rfl
            refine vp_callSi (va_Run.run (va_runV (As := [.int p0, .int x_91196]) (rest := [.long x_91197]) ⟨hx, hb, hml, hown, hts⟩ (c_X2_weight l D g n p0 x_91196 n_nodes n_kind n_pay n_name n_ways n_held n_targets n_weights n_fweights (tr_w h_p0 (by decide) (by decide)) (tr_w h_91201 (by decide) (by decide)) (tr_w h_n_nodes (by decide) (by decide))) (cwV 2 hts (tz_gV qw_609 qw_375 qw_376 qw_322 qw_377) rfl rfl rfl (by decide +kernel) ⟨Nat.le_of_ble_eq_true rfl, Nat.le_of_ble_eq_true rfl⟩) ⟨tz_blS, va_recv hK hPc (ci := 2) (q0 := 0) rfl rfl, tz_preS hPc hK⟩ rfl rfl hl.1 rfl (lv_room (Nat.le_of_ble_eq_true rfl)) dX6_oneMoveMore_136 ⟨Nat.le_of_ble_eq_true rfl, Nat.le_of_ble_eq_true rfl⟩)) (fun r_91209 hw => ?_)
            refine lv_i2l hx hb dX6_oneMoveMore_139 rfl ?_
            refine lv_topl (fun w_91210 _ => ?_)
            refine lv_aload_n hx hb dX6_oneMoveMore_140 rfl (lv_at hl 4 rfl) ?_
            refine va_get (D := D) (ci := 10) (v := .ref vs_part) (C := RX10) (T := TX10) (N := 2) hx hb hts inlX10 hown hK hP 7 rfl rfl 0 (by decide) (hts (Cond.fieldLink RX6 71 "ChanceRings$Values" "part" "[J") qw_553) (fun _ h9 => h9) rfl dX6_oneMoveMore_141 ?_
            refine lv_aload_n hx hb dX6_oneMoveMore_144 rfl (lv_at hl 2 rfl) ?_
            refine va_get (D := D) (ci := 6) (v := .ref n) (C := RX6) (T := TX6) (N := 4) hx hb hts inlX6 hown hK hP 0 rfl rfl 0 (by decide) (hts (Cond.fieldLink RX6 19 "ChanceRings$Solver" "net" "LChanceRings$Net;") qw_548) (fun _ h9 => h9) rfl dX6_oneMoveMore_145 ?_
            refine lv_iload_n hx hb dX6_oneMoveMore_148 rfl (lv_at hl 3 rfl) ?_
            refine lv_iload hx hb dX6_oneMoveMore_149 (lv_at hl 0 rfl) ?_
            have hPc := hP.sub (ws' := [(wO2 n n_nodes n_kind n_pay n_name n_ways n_held n_targets n_weights), (wI g n_targets 0 36 n_ftargets)]) [1, 5] rfl
            refine vp_callSi (va_Run.run (va_runV (As := [.int p0, .int x_91196]) (rest := [.ref vs_part, .long w_91210, .long x_91197]) ⟨hx, hb, hml, hown, hts⟩ (c_X2_target l D g n p0 x_91196 n_nodes n_kind n_pay n_name n_ways n_held n_targets n_weights n_ftargets (tr_w h_p0 (by decide) (by decide)) (tr_w h_91201 (by decide) (by decide)) (tr_w h_n_nodes (by decide) (by decide)) (tr_wa h_n_ftargets (by decide) (by decide))) (cwV 2 hts (tz_gV qw_554 qw_325 qw_326 qw_322 qw_327) rfl rfl rfl (by decide +kernel) ⟨Nat.le_of_ble_eq_true rfl, Nat.le_of_ble_eq_true rfl⟩) ⟨tz_blS, va_recv hK hPc (ci := 2) (q0 := 0) rfl rfl, tz_preS hPc hK⟩ rfl rfl hl.1 rfl (lv_room (Nat.le_of_ble_eq_true rfl)) dX6_oneMoveMore_151 ⟨Nat.le_of_ble_eq_true rfl, Nat.le_of_ble_eq_true rfl⟩)) (fun r_91211 hw => ?_)
            have hw_91212 : 0 ≤ (r_91211 : Int32).toInt ∧ (r_91211 : Int32).toInt ≤ 11 := hw
            refine va_lald hx hb hK hP 8 1 rfl rfl (tr_in hw_91212 (by decide) (by decide)) dX6_oneMoveMore_154 ?_
            refine lv_topl (fun w_91213 _ => ?_)
            refine lv_lmul hx hb dX6_oneMoveMore_155 ?_
            refine lv_topl (fun w_91214 _ => ?_)
            refine lv_ladd hx hb dX6_oneMoveMore_156 ?_
            refine lv_topl (fun w_91215 _ => ?_)
            refine lv_lstore_n (lv' := [(3, .long w_91215), (5, .int x_91196), (0, .ref sv), (1, .int p0), (2, .ref vs)]) hx hb dX6_oneMoveMore_157 rfl hl (by decide) rfl (fun ls hl => ?_)
            obtain ⟨v_91216, v_91216_e⟩ : ∃ y : Int32, y = x_91196 + Int32.ofInt 1 := ⟨_, rfl⟩
            have h_v_91216 : 1 ≤ (v_91216 : Int32).toInt ∧ (v_91216 : Int32).toInt ≤ 3 := by rw [v_91216_e]; exact tr_add h_91201 (⟨by decide, by decide⟩ : 1 ≤ (Int32.ofInt 1 : Int32).toInt ∧ (Int32.ofInt 1 : Int32).toInt ≤ 1) (by decide) (by decide) (by decide) (by decide)
            have q_v_91216 : v_91216.toInt = x_91196.toInt + 1 := by rw [v_91216_e]; exact tr_addE h_91201 (⟨by decide, by decide⟩ : 1 ≤ (Int32.ofInt 1 : Int32).toInt ∧ (Int32.ofInt 1 : Int32).toInt ≤ 1) (by decide) (by decide)
            refine lv_iinc (v := v_91216) (lv' := [(5, .int v_91216), (3, .long w_91215), (0, .ref sv), (1, .int p0), (2, .ref vs)]) hx hb dX6_oneMoveMore_158 hl (k := 1) rfl v_91216_e.symm (by decide) rfl (fun ls hl => ?_)
            refine lv_goto (tgt := 114) hx hb dX6_oneMoveMore_161 (by decide) ?_
            exact ih_91198 v_91216 w_91215 ls (tr_w h_v_91216 (by decide) (by decide)) (by (first | (clear h_p0 h_n_nodes h_v_91112 c_91113_i h_91114 c_91116_i h_91117 hw_91212; omega) | omega)) (lv_sub hl [0, 1, 2, 3, 4] rfl)
      exact lp_91198 4 0 0 ls (⟨by decide, by decide⟩ : 0 ≤ (0 : Int32).toInt ∧ (0 : Int32).toInt ≤ 3) (by decide) (lv_sub hl [0, 1, 2, 3, 4] rfl)
    · skip
      have c_91116_i : ¬ (v_91112 : Int32).toInt = (3 : Int32).toInt := (fun q => c_91116 (Int32.toInt_inj.mp q))
      have h_91118 : 1 ≤ (v_91112 : Int32).toInt ∧ (v_91112 : Int32).toInt ≤ 2 := nr_ne_l h_91114 (⟨by decide, by decide⟩ : 3 ≤ (3 : Int32).toInt ∧ (3 : Int32).toInt ≤ 3) c_91116_i (by decide) (by decide)
      refine lv_aload_n hx hb dX6_oneMoveMore_36 rfl (lv_at hl 0 rfl) ?_
      refine va_get (D := D) (ci := 6) (v := .ref n) (C := RX6) (T := TX6) (N := 4) hx hb hts inlX6 hown hK hP 0 rfl rfl 0 (by decide) (hts (Cond.fieldLink RX6 19 "ChanceRings$Solver" "net" "LChanceRings$Net;") qw_548) (fun _ h9 => h9) rfl dX6_oneMoveMore_37 ?_
      refine va_get (D := D) (ci := 2) (v := .ref n_held) (C := RX2) (T := TX2) (N := 8) hx hb hts inlX2 hown hK hP 1 rfl rfl 5 (by decide) (hts (Cond.fieldLink RX6 38 "ChanceRings$Net" "held" "[I") qw_550) (fun _ h9 => h9) rfl dX6_oneMoveMore_40 ?_
      refine lv_iload_n hx hb dX6_oneMoveMore_43 rfl (lv_at hl 1 rfl) ?_
      refine va_iald hx hb hK hP 4 0 rfl rfl (tr_in h_p0 (by decide) (by decide)) dX6_oneMoveMore_44 ?_
      refine lv_topi (fun v_91217 v_91217_e => ?_)
      have h_v_91217 : (-1) ≤ (v_91217 : Int32).toInt ∧ (v_91217 : Int32).toInt ≤ 2 := by rw [v_91217_e]; exact h_n_fheld _
      refine lv_iconst (v := (-1)) hx hb dX6_oneMoveMore_45 (by decide) ?_
      refine lv_icmp_ne (tgt := 53) hx hb dX6_oneMoveMore_46 (by decide) (fun c_91218 => ?_) (fun c_91218 => ?_)
      · skip
        have c_91218_i : ¬ (v_91217 : Int32).toInt = ((-1) : Int32).toInt := (fun q => c_91218 (Int32.toInt_inj.mp q))
        have h_91219 : 0 ≤ (v_91217 : Int32).toInt ∧ (v_91217 : Int32).toInt ≤ 2 := nr_ne_l h_v_91217 (⟨by decide, by decide⟩ : (-1) ≤ ((-1) : Int32).toInt ∧ ((-1) : Int32).toInt ≤ (-1)) c_91218_i (by decide) (by decide)
        refine lv_aload_n hx hb dX6_oneMoveMore_53 rfl (lv_at hl 0 rfl) ?_
        refine va_get (D := D) (ci := 6) (v := .ref n) (C := RX6) (T := TX6) (N := 4) hx hb hts inlX6 hown hK hP 0 rfl rfl 0 (by decide) (hts (Cond.fieldLink RX6 19 "ChanceRings$Solver" "net" "LChanceRings$Net;") qw_548) (fun _ h9 => h9) rfl dX6_oneMoveMore_54 ?_
        refine va_get (D := D) (ci := 2) (v := .ref n_held) (C := RX2) (T := TX2) (N := 8) hx hb hts inlX2 hown hK hP 1 rfl rfl 5 (by decide) (hts (Cond.fieldLink RX6 38 "ChanceRings$Net" "held" "[I") qw_550) (fun _ h9 => h9) rfl dX6_oneMoveMore_57 ?_
        refine lv_iload_n hx hb dX6_oneMoveMore_60 rfl (lv_at hl 1 rfl) ?_
        refine va_iald hx hb hK hP 4 0 rfl rfl (tr_in h_p0 (by decide) (by decide)) dX6_oneMoveMore_61 ?_
        refine tz_i (y := v_91217) v_91217_e.symm ?_
        refine lv_istore_n (lv' := [(3, .int v_91217), (0, .ref sv), (1, .int p0), (2, .ref vs)]) hx hb dX6_oneMoveMore_62 rfl hl (by decide) rfl (fun ls hl => ?_)
        refine lv_aload_n hx hb dX6_oneMoveMore_63 rfl (lv_at hl 1 rfl) ?_
        refine va_get (D := D) (ci := 6) (v := .ref n) (C := RX6) (T := TX6) (N := 4) hx hb hts inlX6 hown hK hP 0 rfl rfl 0 (by decide) (hts (Cond.fieldLink RX6 19 "ChanceRings$Solver" "net" "LChanceRings$Net;") qw_548) (fun _ h9 => h9) rfl dX6_oneMoveMore_64 ?_
        refine va_get (D := D) (ci := 2) (v := .ref n_held) (C := RX2) (T := TX2) (N := 8) hx hb hts inlX2 hown hK hP 1 rfl rfl 5 (by decide) (hts (Cond.fieldLink RX6 38 "ChanceRings$Net" "held" "[I") qw_550) (fun _ h9 => h9) rfl dX6_oneMoveMore_67 ?_
        refine lv_iload_n hx hb dX6_oneMoveMore_70 rfl (lv_at hl 2 rfl) ?_
        refine va_iald hx hb hK hP 4 0 rfl rfl (tr_in h_p0 (by decide) (by decide)) dX6_oneMoveMore_71 ?_
        refine tz_i (y := v_91217) v_91217_e.symm ?_
        refine lv_iconst (v := (-1)) hx hb dX6_oneMoveMore_72 (by decide) ?_
        refine lv_icmp_ne (tgt := 86) hx hb dX6_oneMoveMore_73 (by decide) (fun c_91221 => ?_) (fun h9 => (nr_x_eq h_91219 (⟨by decide, by decide⟩ : (-1) ≤ ((-1) : Int32).toInt ∧ ((-1) : Int32).toInt ≤ (-1)) (congrArg Int32.toInt h9) (by decide)).elim)
        refine lv_iload_n hx hb dX6_oneMoveMore_86 rfl (lv_at hl 0 rfl) ?_
        refine lv_istore (lv' := [(4, .int v_91217), (3, .int v_91217), (0, .ref sv), (1, .int p0), (2, .ref vs)]) hx hb dX6_oneMoveMore_87 hl (by decide) rfl (fun ls hl => ?_)
        refine lv_ldc2 (v := 12) hx hb hown (hts (Cond.constantLong RX6 109 (12)) qw_610) dX6_oneMoveMore_89 ?_
        refine lv_aload_n hx hb dX6_oneMoveMore_92 rfl (lv_at hl 4 rfl) ?_
        refine va_get (D := D) (ci := 10) (v := .ref vs_part) (C := RX10) (T := TX10) (N := 2) hx hb hts inlX10 hown hK hP 7 rfl rfl 0 (by decide) (hts (Cond.fieldLink RX6 71 "ChanceRings$Values" "part" "[J") qw_553) (fun _ h9 => h9) rfl dX6_oneMoveMore_93 ?_
        refine lv_aload_n hx hb dX6_oneMoveMore_96 rfl (lv_at hl 2 rfl) ?_
        refine va_get (D := D) (ci := 6) (v := .ref n) (C := RX6) (T := TX6) (N := 4) hx hb hts inlX6 hown hK hP 0 rfl rfl 0 (by decide) (hts (Cond.fieldLink RX6 19 "ChanceRings$Solver" "net" "LChanceRings$Net;") qw_548) (fun _ h9 => h9) rfl dX6_oneMoveMore_97 ?_
        refine lv_iload_n hx hb dX6_oneMoveMore_100 rfl (lv_at hl 3 rfl) ?_
        refine lv_iload hx hb dX6_oneMoveMore_101 (lv_at hl 0 rfl) ?_
        have hPc := hP.sub (ws' := [(wO2 n n_nodes n_kind n_pay n_name n_ways n_held n_targets n_weights), (wI g n_targets 0 36 n_ftargets)]) [1, 5] rfl
        refine vp_callSi (va_Run.run (va_runV (As := [.int p0, .int v_91217]) (rest := [.ref vs_part, .long 12]) ⟨hx, hb, hml, hown, hts⟩ (c_X2_target l D g n p0 v_91217 n_nodes n_kind n_pay n_name n_ways n_held n_targets n_weights n_ftargets (tr_w h_p0 (by decide) (by decide)) (tr_w h_91219 (by decide) (by decide)) (tr_w h_n_nodes (by decide) (by decide)) (tr_wa h_n_ftargets (by decide) (by decide))) (cwV 2 hts (tz_gV qw_554 qw_325 qw_326 qw_322 qw_327) rfl rfl rfl (by decide +kernel) ⟨Nat.le_of_ble_eq_true rfl, Nat.le_of_ble_eq_true rfl⟩) ⟨tz_blS, va_recv hK hPc (ci := 2) (q0 := 0) rfl rfl, tz_preS hPc hK⟩ rfl rfl hl.1 rfl (lv_room (Nat.le_of_ble_eq_true rfl)) dX6_oneMoveMore_103 ⟨Nat.le_of_ble_eq_true rfl, Nat.le_of_ble_eq_true rfl⟩)) (fun r_91222 hw => ?_)
        have hw_91223 : 0 ≤ (r_91222 : Int32).toInt ∧ (r_91222 : Int32).toInt ≤ 11 := hw
        refine va_lald hx hb hK hP 8 1 rfl rfl (tr_in hw_91223 (by decide) (by decide)) dX6_oneMoveMore_106 ?_
        refine lv_topl (fun w_91224 _ => ?_)
        refine lv_lmul hx hb dX6_oneMoveMore_107 ?_
        refine lv_topl (fun w_91225 _ => ?_)
        exact W.lret (v := w_91225) hx hb hr (fun t ht hW => ⟨w_91225, rfl, trivial, ht⟩) (fun _ h => nomatch h) dX6_oneMoveMore_108
      · skip
        have c_91218_i : (v_91217 : Int32).toInt = ((-1) : Int32).toInt := congrArg Int32.toInt c_91218
        have h_91220 : (-1) ≤ (v_91217 : Int32).toInt ∧ (v_91217 : Int32).toInt ≤ (-1) := nr_eq_l h_v_91217 (⟨by decide, by decide⟩ : (-1) ≤ ((-1) : Int32).toInt ∧ ((-1) : Int32).toInt ≤ (-1)) c_91218_i (by decide) (by decide)
        refine lv_iconst (v := 0) hx hb dX6_oneMoveMore_49 (by decide) ?_
        refine lv_goto (tgt := 62) hx hb dX6_oneMoveMore_50 (by decide) ?_
        refine lv_istore_n (lv' := [(3, .int 0), (0, .ref sv), (1, .int p0), (2, .ref vs)]) hx hb dX6_oneMoveMore_62 rfl hl (by decide) rfl (fun ls hl => ?_)
        refine lv_aload_n hx hb dX6_oneMoveMore_63 rfl (lv_at hl 1 rfl) ?_
        refine va_get (D := D) (ci := 6) (v := .ref n) (C := RX6) (T := TX6) (N := 4) hx hb hts inlX6 hown hK hP 0 rfl rfl 0 (by decide) (hts (Cond.fieldLink RX6 19 "ChanceRings$Solver" "net" "LChanceRings$Net;") qw_548) (fun _ h9 => h9) rfl dX6_oneMoveMore_64 ?_
        refine va_get (D := D) (ci := 2) (v := .ref n_held) (C := RX2) (T := TX2) (N := 8) hx hb hts inlX2 hown hK hP 1 rfl rfl 5 (by decide) (hts (Cond.fieldLink RX6 38 "ChanceRings$Net" "held" "[I") qw_550) (fun _ h9 => h9) rfl dX6_oneMoveMore_67 ?_
        refine lv_iload_n hx hb dX6_oneMoveMore_70 rfl (lv_at hl 2 rfl) ?_
        refine va_iald hx hb hK hP 4 0 rfl rfl (tr_in h_p0 (by decide) (by decide)) dX6_oneMoveMore_71 ?_
        refine tz_i (y := v_91217) v_91217_e.symm ?_
        refine lv_iconst (v := (-1)) hx hb dX6_oneMoveMore_72 (by decide) ?_
        refine lv_icmp_ne (tgt := 86) hx hb dX6_oneMoveMore_73 (by decide) (fun h9 => (nr_x_ne h_91220 (⟨by decide, by decide⟩ : (-1) ≤ ((-1) : Int32).toInt ∧ ((-1) : Int32).toInt ≤ (-1)) (fun q => h9 (Int32.toInt_inj.mp q)) (by decide)).elim) (fun c_91226 => ?_)
        refine lv_aload_n hx hb dX6_oneMoveMore_76 rfl (lv_at hl 1 rfl) ?_
        refine lv_iload_n hx hb dX6_oneMoveMore_77 rfl (lv_at hl 2 rfl) ?_
        refine lv_iload_n hx hb dX6_oneMoveMore_78 rfl (lv_at hl 0 rfl) ?_
        refine lv_aload_n hx hb dX6_oneMoveMore_79 rfl (lv_at hl 3 rfl) ?_
        have hPc := hP.sub (ws' := [(wO6 sv n co sv_keep sv_scaled), (wO2 n n_nodes n_kind n_pay n_name n_ways n_held n_targets n_weights), (wI g n_kind 0 12 n_fkind), (wI g n_ways 0 12 n_fways), (wI g n_targets 0 36 n_ftargets), (wO10 vs vs_part vsw), (wJ g vs_part 1 12 vsp)]) [0, 1, 2, 3, 5, 7, 8] rfl
        refine vp_callSi (va_Run.run (va_runV (As := [.int p0, .int 0, .ref vs]) (rest := []) ⟨hx, hb, hml, hown, hts⟩ (c_X6_betterWay l D g sv p0 0 vs n co sv_keep sv_scaled n_nodes n_kind n_pay n_name n_ways n_held n_targets n_weights n_fkind n_fways n_ftargets vs_part vsw vsp (tr_w h_p0 (by decide) (by decide)) (⟨by decide, by decide⟩ : 0 ≤ (0 : Int32).toInt ∧ (0 : Int32).toInt ≤ 2) (tr_w h_n_nodes (by decide) (by decide)) (tr_wa h_n_fkind (by decide) (by decide)) (tr_wa h_n_fways (by decide) (by decide)) (tr_wa h_n_ftargets (by decide) (by decide))) (cwV 3 hts (tz_gV qw_555 qw_556 qw_557 qw_558 qw_559) rfl rfl rfl (by decide +kernel) ⟨Nat.le_of_ble_eq_true rfl, Nat.le_of_ble_eq_true rfl⟩) ⟨tz_blS, va_recv hK hPc (ci := 6) (q0 := 0) rfl rfl, tz_preS hPc hK⟩ rfl rfl hl.1 rfl (lv_room (Nat.le_of_ble_eq_true rfl)) dX6_oneMoveMore_80 ⟨Nat.le_of_ble_eq_true rfl, Nat.le_of_ble_eq_true rfl⟩)) (fun r_91227 hw => ?_)
        have hw_91228 : 0 ≤ (r_91227 : Int32).toInt ∧ (r_91227 : Int32).toInt ≤ 2 := hw
        refine lv_goto (tgt := 87) hx hb dX6_oneMoveMore_83 (by decide) ?_
        refine lv_istore (lv' := [(4, .int r_91227), (3, .int 0), (0, .ref sv), (1, .int p0), (2, .ref vs)]) hx hb dX6_oneMoveMore_87 hl (by decide) rfl (fun ls hl => ?_)
        refine lv_ldc2 (v := 12) hx hb hown (hts (Cond.constantLong RX6 109 (12)) qw_610) dX6_oneMoveMore_89 ?_
        refine lv_aload_n hx hb dX6_oneMoveMore_92 rfl (lv_at hl 4 rfl) ?_
        refine va_get (D := D) (ci := 10) (v := .ref vs_part) (C := RX10) (T := TX10) (N := 2) hx hb hts inlX10 hown hK hP 7 rfl rfl 0 (by decide) (hts (Cond.fieldLink RX6 71 "ChanceRings$Values" "part" "[J") qw_553) (fun _ h9 => h9) rfl dX6_oneMoveMore_93 ?_
        refine lv_aload_n hx hb dX6_oneMoveMore_96 rfl (lv_at hl 2 rfl) ?_
        refine va_get (D := D) (ci := 6) (v := .ref n) (C := RX6) (T := TX6) (N := 4) hx hb hts inlX6 hown hK hP 0 rfl rfl 0 (by decide) (hts (Cond.fieldLink RX6 19 "ChanceRings$Solver" "net" "LChanceRings$Net;") qw_548) (fun _ h9 => h9) rfl dX6_oneMoveMore_97 ?_
        refine lv_iload_n hx hb dX6_oneMoveMore_100 rfl (lv_at hl 3 rfl) ?_
        refine lv_iload hx hb dX6_oneMoveMore_101 (lv_at hl 0 rfl) ?_
        have hPc := hP.sub (ws' := [(wO2 n n_nodes n_kind n_pay n_name n_ways n_held n_targets n_weights), (wI g n_targets 0 36 n_ftargets)]) [1, 5] rfl
        refine vp_callSi (va_Run.run (va_runV (As := [.int p0, .int r_91227]) (rest := [.ref vs_part, .long 12]) ⟨hx, hb, hml, hown, hts⟩ (c_X2_target l D g n p0 r_91227 n_nodes n_kind n_pay n_name n_ways n_held n_targets n_weights n_ftargets (tr_w h_p0 (by decide) (by decide)) (tr_w hw_91228 (by decide) (by decide)) (tr_w h_n_nodes (by decide) (by decide)) (tr_wa h_n_ftargets (by decide) (by decide))) (cwV 2 hts (tz_gV qw_554 qw_325 qw_326 qw_322 qw_327) rfl rfl rfl (by decide +kernel) ⟨Nat.le_of_ble_eq_true rfl, Nat.le_of_ble_eq_true rfl⟩) ⟨tz_blS, va_recv hK hPc (ci := 2) (q0 := 0) rfl rfl, tz_preS hPc hK⟩ rfl rfl hl.1 rfl (lv_room (Nat.le_of_ble_eq_true rfl)) dX6_oneMoveMore_103 ⟨Nat.le_of_ble_eq_true rfl, Nat.le_of_ble_eq_true rfl⟩)) (fun r_91229 hw => ?_)
        have hw_91230 : 0 ≤ (r_91229 : Int32).toInt ∧ (r_91229 : Int32).toInt ≤ 11 := hw
        refine va_lald hx hb hK hP 8 1 rfl rfl (tr_in hw_91230 (by decide) (by decide)) dX6_oneMoveMore_106 ?_
        refine lv_topl (fun w_91231 _ => ?_)
        refine lv_lmul hx hb dX6_oneMoveMore_107 ?_
        refine lv_topl (fun w_91232 _ => ?_)
        exact W.lret (v := w_91232) hx hb hr (fun t ht hW => ⟨w_91232, rfl, trivial, ht⟩) (fun _ h => nomatch h) dX6_oneMoveMore_108
  · skip
    have c_91113_i : (v_91112 : Int32).toInt = (0 : Int32).toInt := congrArg Int32.toInt c_91113
    have h_91115 : 0 ≤ (v_91112 : Int32).toInt ∧ (v_91112 : Int32).toInt ≤ 0 := nr_eq_l h_v_91112 (⟨by decide, by decide⟩ : 0 ≤ (0 : Int32).toInt ∧ (0 : Int32).toInt ≤ 0) c_91113_i (by decide) (by decide)
    refine lv_ldc2 (v := 12) hx hb hown (hts (Cond.constantLong RX6 109 (12)) qw_610) dX6_oneMoveMore_12 ?_
    refine lv_aload_n hx hb dX6_oneMoveMore_15 rfl (lv_at hl 2 rfl) ?_
    refine va_get (D := D) (ci := 10) (v := .ref vs_part) (C := RX10) (T := TX10) (N := 2) hx hb hts inlX10 hown hK hP 7 rfl rfl 0 (by decide) (hts (Cond.fieldLink RX6 71 "ChanceRings$Values" "part" "[J") qw_553) (fun _ h9 => h9) rfl dX6_oneMoveMore_16 ?_
    refine lv_iload_n hx hb dX6_oneMoveMore_19 rfl (lv_at hl 1 rfl) ?_
    refine va_lald hx hb hK hP 8 1 rfl rfl (tr_in h_p0 (by decide) (by decide)) dX6_oneMoveMore_20 ?_
    refine lv_topl (fun w_91233 _ => ?_)
    refine lv_lmul hx hb dX6_oneMoveMore_21 ?_
    refine lv_topl (fun w_91234 _ => ?_)
    exact W.lret (v := w_91234) hx hb hr (fun t ht hW => ⟨w_91234, rfl, trivial, ht⟩) (fun _ h => nomatch h) dX6_oneMoveMore_22
set_option maxHeartbeats 4000000 in
set_option maxRecDepth 100000 in
theorem c_X6_findWithin (l : Launch) (D : va_G) (g : Nat → ClassId) (sz : Nat) (sv : Nat) (p0 : Int32) (vs : Nat) (n : Nat) (co : Nat) (sv_keep : Nat) (sv_scaled : Nat) (n_nodes : Int32) (n_kind : Nat) (n_pay : Nat) (n_name : Nat) (n_ways : Nat) (n_held : Nat) (n_targets : Nat) (n_weights : Nat) (n_fkind : Nat → Int32) (n_fpay : Nat → Int32) (n_fways : Nat → Int32) (n_fheld : Nat → Int32) (n_ftargets : Nat → Int32) (n_fweights : Nat → Int32) (vs_part : Nat) (vsw : Int64) (vsp : Nat → Int64) (scf : Nat → Int64) (h_p0 : 0 ≤ (p0 : Int32).toInt ∧ (p0 : Int32).toInt ≤ 8) (h_n_nodes : 0 ≤ (n_nodes : Int32).toInt ∧ (n_nodes : Int32).toInt ≤ 12) (h_n_fkind : ∀ j : Nat, 0 ≤ (n_fkind j).toInt ∧ (n_fkind j).toInt ≤ 3) (h_n_fways : ∀ j : Nat, 0 ≤ (n_fways j).toInt ∧ (n_fways j).toInt ≤ 3) (h_n_fheld : ∀ j : Nat, (-1) ≤ (n_fheld j).toInt ∧ (n_fheld j).toInt ≤ 2) (h_n_ftargets : ∀ j : Nat, 0 ≤ (n_ftargets j).toInt ∧ (n_ftargets j).toInt ≤ 11) : Met l yX6_findWithin (.code yX6_findWithin cX6_findWithin 5 none :: wsL_law) ({ frames := 3, cells := 0, slots := 0, locals := 75 }) (va_Pc [.ref sv, .int p0, .ref vs] (fun U => U.heap.size = sz ∧ va_P D vwCl [(wO6 sv n co sv_keep sv_scaled), (wO2 n n_nodes n_kind n_pay n_name n_ways n_held n_targets n_weights), (wI g n_kind 0 12 n_fkind), (wI g n_pay 0 12 n_fpay), (wI g n_ways 0 12 n_fways), (wI g n_held 0 12 n_fheld), (wI g n_targets 0 36 n_ftargets), (wI g n_weights 0 36 n_fweights), (wO10 vs vs_part vsw), (wJ g vs_part 1 12 vsp), (wJ g sv_scaled 1 12 scf)] U.heap ∧ va_K D vwCl (TY g) U ∧ va_D (fun _ => True) [(wO6 sv n co sv_keep sv_scaled), (wO2 n n_nodes n_kind n_pay n_name n_ways n_held n_targets n_weights), (wI g n_kind 0 12 n_fkind), (wI g n_pay 0 12 n_fpay), (wI g n_ways 0 12 n_fways), (wI g n_held 0 12 n_fheld), (wI g n_targets 0 36 n_ftargets), (wI g n_weights 0 36 n_fweights), (wO10 vs vs_part vsw), (wJ g vs_part 1 12 vsp), (wJ g sv_scaled 1 12 scf)])) (va_Qv (fun (_ : Unit) => True) (fun _ t => ∃ ovw : Int64, ∃ ovp : Nat → Int64, ∃ osc : Nat → Int64, va_P D vwCl [(wO6 sv n co sv_keep sv_scaled), (wO2 n n_nodes n_kind n_pay n_name n_ways n_held n_targets n_weights), (wI g n_kind 0 12 n_fkind), (wI g n_pay 0 12 n_fpay), (wI g n_ways 0 12 n_fways), (wI g n_held 0 12 n_fheld), (wI g n_targets 0 36 n_ftargets), (wI g n_weights 0 36 n_fweights), (wO10 vs vs_part ovw), (wJ g vs_part 1 12 ovp), (wJ g sv_scaled 1 12 osc)] t.heap ∧ va_D (va_A [(wO6 sv n co sv_keep sv_scaled), (wO2 n n_nodes n_kind n_pay n_name n_ways n_held n_targets n_weights), (wI g n_kind 0 12 n_fkind), (wI g n_pay 0 12 n_fpay), (wI g n_ways 0 12 n_fways), (wI g n_held 0 12 n_fheld), (wI g n_targets 0 36 n_ftargets), (wI g n_weights 0 36 n_fweights), (wO10 vs vs_part vsw), (wJ g vs_part 1 12 vsp), (wJ g sv_scaled 1 12 scf)] sz) [(wO6 sv n co sv_keep sv_scaled), (wO2 n n_nodes n_kind n_pay n_name n_ways n_held n_targets n_weights), (wI g n_kind 0 12 n_fkind), (wI g n_pay 0 12 n_fpay), (wI g n_ways 0 12 n_fways), (wI g n_held 0 12 n_fheld), (wI g n_targets 0 36 n_ftargets), (wI g n_weights 0 36 n_fweights), (wO10 vs vs_part ovw), (wJ g vs_part 1 12 ovp), (wJ g sv_scaled 1 12 osc)]) (va_A [(wO6 sv n co sv_keep sv_scaled), (wO2 n n_nodes n_kind n_pay n_name n_ways n_held n_targets n_weights), (wI g n_kind 0 12 n_fkind), (wI g n_pay 0 12 n_fpay), (wI g n_ways 0 12 n_fways), (wI g n_held 0 12 n_fheld), (wI g n_targets 0 36 n_ftargets), (wI g n_weights 0 36 n_fweights), (wO10 vs vs_part vsw), (wJ g vs_part 1 12 vsp), (wJ g sv_scaled 1 12 scf)] sz)) 0 0 (va_A [(wO6 sv n co sv_keep sv_scaled), (wO2 n n_nodes n_kind n_pay n_name n_ways n_held n_targets n_weights), (wI g n_kind 0 12 n_fkind), (wI g n_pay 0 12 n_fpay), (wI g n_ways 0 12 n_fways), (wI g n_held 0 12 n_fheld), (wI g n_targets 0 36 n_ftargets), (wI g n_weights 0 36 n_fweights), (wO10 vs vs_part vsw), (wJ g vs_part 1 12 vsp), (wJ g sv_scaled 1 12 scf)] sz) := by
  refine Met.ofW (cc := cX6_findWithin) (maxL := 5) (ret := none) (by decide) rfl ?_
  intro p e s m args below meth c s₁ B hml hv
  obtain ⟨ha, hsz, hP, hK, hD0⟩ := hv
  have hx := B.exec
  have hb := B.bytes
  have hr := B.returns
  have hts0 := atoms_spec (ws := (.code yX6_findWithin cX6_findWithin 5 none :: wsL_law)) B.pre
  have hts : ∀ w ∈ wsL_law, w.before args s = true := fun w h => hts0 w (List.mem_cons_of_mem _ h)
  have hown : s.vm.findClass RX6 = some m.cls := findClass_of_methodNamed B.named
  have hlocks := B.notSynchronized
  subst hsz
  have hD := hD0.self (sz := s.heap.size)
  generalize hAe : va_A [(wO6 sv n co sv_keep sv_scaled), (wO2 n n_nodes n_kind n_pay n_name n_ways n_held n_targets n_weights), (wI g n_kind 0 12 n_fkind), (wI g n_pay 0 12 n_fpay), (wI g n_ways 0 12 n_fways), (wI g n_held 0 12 n_fheld), (wI g n_targets 0 36 n_ftargets), (wI g n_weights 0 36 n_fweights), (wO10 vs vs_part vsw), (wJ g vs_part 1 12 vsp), (wJ g sv_scaled 1 12 scf)] s.heap.size = A at hD ⊢
  have hA : ∀ q : Nat, s.heap.size ≤ q → A q := fun q h => by rw [← hAe]; exact Or.inr h
  have hS : va_S A s.heap s.heap [] := va_S.rf
  have hP : va_P D vwCl [(wO6 sv n co sv_keep sv_scaled), (wO2 n n_nodes n_kind n_pay n_name n_ways n_held n_targets n_weights), (wI g n_kind 0 12 n_fkind), (wI g n_pay 0 12 n_fpay), (wI g n_ways 0 12 n_fways), (wI g n_held 0 12 n_fheld), (wI g n_targets 0 36 n_ftargets), (wI g n_weights 0 36 n_fweights), (wO10 vs vs_part vsw), (wJ g vs_part 1 12 vsp), (wJ g sv_scaled 1 12 scf)] s.heap := hP
  refine W.eq (g2 := entryFrame m ([.ref sv, .int p0, .ref vs] : List Value).toArray 5) (by rw [ha]) ?_
  have hl := lv_entry ([.ref sv, .int p0, .ref vs]) (n := 5) (Nat.le_of_ble_eq_true rfl)
  rw [lg_entry_eq]
  generalize (lg_sl ([.ref sv, .int p0, .ref vs]) ++ List.replicate (5 - (lg_sl ([.ref sv, .int p0, .ref vs])).length) Slot.unset).toArray = ls at hl ⊢
  have hl : lv_has ls 5 [(0, .ref sv), (1, .int p0), (2, .ref vs)] := hl
  refine lv_aload_n hx hb dX6_findWithin_0 rfl (lv_at hl 2 rfl) ?_
  refine lv_lconst (v := 1) hx hb dX6_findWithin_1 (by decide) ?_
  refine va_put (D := D) (ci := 10) (v := .long 1) (ty := .long) (C := RX10) (T := TX10) (N := 2) hx hb hts inlX10 tyX10 tyX10_ok nmX10 hown hK hP hD hS 8 rfl rfl 1 (by decide) (hts (Cond.fieldLink RX6 92 "ChanceRings$Values" "whole" "J") qw_611) (fun _ h9 => h9) rfl (by decide +kernel) rfl rfl (Nat.le_of_ble_eq_true rfl) dX6_findWithin_2 (fun H locs hP hD hS => ?_)
  have hP : va_P D vwCl [(wO6 sv n co sv_keep sv_scaled), (wO2 n n_nodes n_kind n_pay n_name n_ways n_held n_targets n_weights), (wI g n_kind 0 12 n_fkind), (wI g n_pay 0 12 n_fpay), (wI g n_ways 0 12 n_fways), (wI g n_held 0 12 n_fheld), (wI g n_targets 0 36 n_ftargets), (wI g n_weights 0 36 n_fweights), (wO10 vs vs_part 1), (wJ g vs_part 1 12 vsp), (wJ g sv_scaled 1 12 scf)] H := hP
  have hD : va_D A [(wO6 sv n co sv_keep sv_scaled), (wO2 n n_nodes n_kind n_pay n_name n_ways n_held n_targets n_weights), (wI g n_kind 0 12 n_fkind), (wI g n_pay 0 12 n_fpay), (wI g n_ways 0 12 n_fways), (wI g n_held 0 12 n_fheld), (wI g n_targets 0 36 n_ftargets), (wI g n_weights 0 36 n_fweights), (wO10 vs vs_part 1), (wJ g vs_part 1 12 vsp), (wJ g sv_scaled 1 12 scf)] := hD
  refine lv_iconst (v := 0) hx hb dX6_findWithin_5 (by decide) ?_
  refine lv_istore_n (lv' := [(3, .int 0), (0, .ref sv), (1, .int p0), (2, .ref vs)]) hx hb dX6_findWithin_6 rfl hl (by decide) rfl (fun ls hl => ?_)
  have lp_94806 : ∀ (n_94806 : Nat) (x_94804 : Int32) (f_94805 : Nat → Int64) (H : Heap) (locs : List Loc) (ls : Array Slot), (0 ≤ (x_94804 : Int32).toInt ∧ (x_94804 : Int32).toInt ≤ 12) → (12 - x_94804.toInt < (n_94806 : Int)) → va_P D vwCl [(wO6 sv n co sv_keep sv_scaled), (wO2 n n_nodes n_kind n_pay n_name n_ways n_held n_targets n_weights), (wI g n_kind 0 12 n_fkind), (wI g n_pay 0 12 n_fpay), (wI g n_ways 0 12 n_fways), (wI g n_held 0 12 n_fheld), (wI g n_targets 0 36 n_ftargets), (wI g n_weights 0 36 n_fweights), (wO10 vs vs_part 1), (wJ g vs_part 1 12 f_94805), (wJ g sv_scaled 1 12 scf)] H → va_D A [(wO6 sv n co sv_keep sv_scaled), (wO2 n n_nodes n_kind n_pay n_name n_ways n_held n_targets n_weights), (wI g n_kind 0 12 n_fkind), (wI g n_pay 0 12 n_fpay), (wI g n_ways 0 12 n_fways), (wI g n_held 0 12 n_fheld), (wI g n_targets 0 36 n_ftargets), (wI g n_weights 0 36 n_fweights), (wO10 vs vs_part 1), (wJ g vs_part 1 12 f_94805), (wJ g sv_scaled 1 12 scf)] → va_S A s.heap H locs → lv_has ls 5 [(3, .int x_94804), (0, .ref sv), (1, .int p0), (2, .ref vs)] → W p l e (headSpec (.code yX6_findWithin cX6_findWithin 5 none :: wsL_law) ({ frames := 3, cells := 0, slots := 0, locals := 75 })).room s m args below meth c H locs 0 0 (MQ below (va_Qv (fun (_ : Unit) => True) (fun _ t => ∃ ovw : Int64, ∃ ovp : Nat → Int64, ∃ osc : Nat → Int64, va_P D vwCl [(wO6 sv n co sv_keep sv_scaled), (wO2 n n_nodes n_kind n_pay n_name n_ways n_held n_targets n_weights), (wI g n_kind 0 12 n_fkind), (wI g n_pay 0 12 n_fpay), (wI g n_ways 0 12 n_fways), (wI g n_held 0 12 n_fheld), (wI g n_targets 0 36 n_ftargets), (wI g n_weights 0 36 n_fweights), (wO10 vs vs_part ovw), (wJ g vs_part 1 12 ovp), (wJ g sv_scaled 1 12 osc)] t.heap ∧ va_D A [(wO6 sv n co sv_keep sv_scaled), (wO2 n n_nodes n_kind n_pay n_name n_ways n_held n_targets n_weights), (wI g n_kind 0 12 n_fkind), (wI g n_pay 0 12 n_fpay), (wI g n_ways 0 12 n_fways), (wI g n_held 0 12 n_fheld), (wI g n_targets 0 36 n_ftargets), (wI g n_weights 0 36 n_fweights), (wO10 vs vs_part ovw), (wJ g vs_part 1 12 ovp), (wJ g sv_scaled 1 12 osc)]) A) args s 0 0 A) (F0 m 7 ls []) := by
    intro n_94806
    induction n_94806 with
    | zero =>
      intro x_94804 f_94805 H locs ls h_x_94804 hm_94806 hP hD hS hl
      exfalso; omega
    | succ n_94806 ih_94806 =>
      intro x_94804 f_94805 H locs ls h_x_94804 hm_94806 hP hD hS hl
      refine lv_iload_n hx hb dX6_findWithin_7 rfl (lv_at hl 0 rfl) ?_
      refine lv_aload_n hx hb dX6_findWithin_8 rfl (lv_at hl 1 rfl) ?_
      refine va_get (D := D) (ci := 6) (v := .ref n) (C := RX6) (T := TX6) (N := 4) hx hb hts inlX6 hown hK hP 0 rfl rfl 0 (by decide) (hts (Cond.fieldLink RX6 19 "ChanceRings$Solver" "net" "LChanceRings$Net;") qw_548) (fun _ h9 => h9) rfl dX6_findWithin_9 ?_
      refine va_get (D := D) (ci := 2) (v := .int n_nodes) (C := RX2) (T := TX2) (N := 8) hx hb hts inlX2 hown hK hP 1 rfl rfl 0 (by decide) (hts (Cond.fieldLink RX6 32 "ChanceRings$Net" "nodes" "I") qw_549) (fun _ h9 => h9) rfl dX6_findWithin_12 ?_
      refine lv_icmp_ge (tgt := 56) hx hb dX6_findWithin_15 (by decide) (fun c_94807 => ?_) (fun c_94807 => ?_)
      · skip
        refine lv_iconst (v := 0) hx hb dX6_findWithin_56 (by decide) ?_
        refine lv_istore_n (lv' := [(3, .int 0), (0, .ref sv), (1, .int p0), (2, .ref vs)]) hx hb dX6_findWithin_57 rfl hl (by decide) rfl (fun ls hl => ?_)
        have lp_95419 : ∀ (n_95419 : Nat) (x_95415 : Int32) (x_95416 : Int64) (f_95417 : Nat → Int64) (f_95418 : Nat → Int64) (H : Heap) (locs : List Loc) (ls : Array Slot), (0 ≤ (x_95415 : Int32).toInt ∧ (x_95415 : Int32).toInt ≤ 8) → (8 - x_95415.toInt < (n_95419 : Int)) → va_P D vwCl [(wO6 sv n co sv_keep sv_scaled), (wO2 n n_nodes n_kind n_pay n_name n_ways n_held n_targets n_weights), (wI g n_kind 0 12 n_fkind), (wI g n_pay 0 12 n_fpay), (wI g n_ways 0 12 n_fways), (wI g n_held 0 12 n_fheld), (wI g n_targets 0 36 n_ftargets), (wI g n_weights 0 36 n_fweights), (wO10 vs vs_part x_95416), (wJ g vs_part 1 12 f_95417), (wJ g sv_scaled 1 12 f_95418)] H → va_D A [(wO6 sv n co sv_keep sv_scaled), (wO2 n n_nodes n_kind n_pay n_name n_ways n_held n_targets n_weights), (wI g n_kind 0 12 n_fkind), (wI g n_pay 0 12 n_fpay), (wI g n_ways 0 12 n_fways), (wI g n_held 0 12 n_fheld), (wI g n_targets 0 36 n_ftargets), (wI g n_weights 0 36 n_fweights), (wO10 vs vs_part x_95416), (wJ g vs_part 1 12 f_95417), (wJ g sv_scaled 1 12 f_95418)] → va_S A s.heap H locs → lv_has ls 5 [(3, .int x_95415), (0, .ref sv), (1, .int p0), (2, .ref vs)] → W p l e (headSpec (.code yX6_findWithin cX6_findWithin 5 none :: wsL_law) ({ frames := 3, cells := 0, slots := 0, locals := 75 })).room s m args below meth c H locs 0 0 (MQ below (va_Qv (fun (_ : Unit) => True) (fun _ t => ∃ ovw : Int64, ∃ ovp : Nat → Int64, ∃ osc : Nat → Int64, va_P D vwCl [(wO6 sv n co sv_keep sv_scaled), (wO2 n n_nodes n_kind n_pay n_name n_ways n_held n_targets n_weights), (wI g n_kind 0 12 n_fkind), (wI g n_pay 0 12 n_fpay), (wI g n_ways 0 12 n_fways), (wI g n_held 0 12 n_fheld), (wI g n_targets 0 36 n_ftargets), (wI g n_weights 0 36 n_fweights), (wO10 vs vs_part ovw), (wJ g vs_part 1 12 ovp), (wJ g sv_scaled 1 12 osc)] t.heap ∧ va_D A [(wO6 sv n co sv_keep sv_scaled), (wO2 n n_nodes n_kind n_pay n_name n_ways n_held n_targets n_weights), (wI g n_kind 0 12 n_fkind), (wI g n_pay 0 12 n_fpay), (wI g n_ways 0 12 n_fways), (wI g n_held 0 12 n_fheld), (wI g n_targets 0 36 n_ftargets), (wI g n_weights 0 36 n_fweights), (wO10 vs vs_part ovw), (wJ g vs_part 1 12 ovp), (wJ g sv_scaled 1 12 osc)]) A) args s 0 0 A) (F0 m 58 ls []) := by
          intro n_95419
          induction n_95419 with
          | zero =>
            intro x_95415 x_95416 f_95417 f_95418 H locs ls h_x_95415 hm_95419 hP hD hS hl
            exfalso; omega
          | succ n_95419 ih_95419 =>
            intro x_95415 x_95416 f_95417 f_95418 H locs ls h_x_95415 hm_95419 hP hD hS hl
            refine lv_iload_n hx hb dX6_findWithin_58 rfl (lv_at hl 0 rfl) ?_
            refine lv_iload_n hx hb dX6_findWithin_59 rfl (lv_at hl 2 rfl) ?_
            refine lv_icmp_ge (tgt := 131) hx hb dX6_findWithin_60 (by decide) (fun c_95420 => ?_) (fun c_95420 => ?_)
            · skip
              have hP9 := hP.sub (ws' := [(wO6 sv n co sv_keep sv_scaled), (wO2 n n_nodes n_kind n_pay n_name n_ways n_held n_targets n_weights), (wI g n_kind 0 12 n_fkind), (wI g n_pay 0 12 n_fpay), (wI g n_ways 0 12 n_fways), (wI g n_held 0 12 n_fheld), (wI g n_targets 0 36 n_ftargets), (wI g n_weights 0 36 n_fweights), (wO10 vs vs_part x_95416), (wJ g vs_part 1 12 f_95417), (wJ g sv_scaled 1 12 f_95418)]) [0, 1, 2, 3, 4, 5, 6, 7, 8, 9, 10] rfl
              have hD9 := hD.sub (ws' := [(wO6 sv n co sv_keep sv_scaled), (wO2 n n_nodes n_kind n_pay n_name n_ways n_held n_targets n_weights), (wI g n_kind 0 12 n_fkind), (wI g n_pay 0 12 n_fpay), (wI g n_ways 0 12 n_fways), (wI g n_held 0 12 n_fheld), (wI g n_targets 0 36 n_ftargets), (wI g n_weights 0 36 n_fweights), (wO10 vs vs_part x_95416), (wJ g vs_part 1 12 f_95417), (wJ g sv_scaled 1 12 f_95418)]) [0, 1, 2, 3, 4, 5, 6, 7, 8, 9, 10] (by decide) rfl
              exact W.vret hx hb hr (fun t ht hW => ⟨⟨(), rfl, trivial, x_95416, f_95417, f_95418, by rw [ht]; exact hP9, hD9⟩, hS.F ht⟩) hS.2.2 dX6_findWithin_131
            · skip
              have c_95420_i := Int32.lt_iff_toInt_lt.mp (Int32.not_le.mp c_95420)
              have h_95421 : 0 ≤ (x_95415 : Int32).toInt ∧ (x_95415 : Int32).toInt ≤ 7 := nr_lt_l h_x_95415 h_p0 c_95420_i (by decide) (by decide)
              have h_95422 : 1 ≤ (p0 : Int32).toInt ∧ (p0 : Int32).toInt ≤ 8 := nr_lt_r h_x_95415 h_p0 c_95420_i (by decide) (by decide)
              refine lv_iconst (v := 0) hx hb dX6_findWithin_63 (by decide) ?_
              refine lv_istore (lv' := [(4, .int 0), (3, .int x_95415), (0, .ref sv), (1, .int p0), (2, .ref vs)]) hx hb dX6_findWithin_64 hl (by decide) rfl (fun ls hl => ?_)
              have lp_95510 : ∀ (n_95510 : Nat) (x_95508 : Int32) (f_95509 : Nat → Int64) (H : Heap) (locs : List Loc) (ls : Array Slot), (0 ≤ (x_95508 : Int32).toInt ∧ (x_95508 : Int32).toInt ≤ 12) → (12 - x_95508.toInt < (n_95510 : Int)) → va_P D vwCl [(wO6 sv n co sv_keep sv_scaled), (wO2 n n_nodes n_kind n_pay n_name n_ways n_held n_targets n_weights), (wI g n_kind 0 12 n_fkind), (wI g n_pay 0 12 n_fpay), (wI g n_ways 0 12 n_fways), (wI g n_held 0 12 n_fheld), (wI g n_targets 0 36 n_ftargets), (wI g n_weights 0 36 n_fweights), (wO10 vs vs_part x_95416), (wJ g vs_part 1 12 f_95417), (wJ g sv_scaled 1 12 f_95509)] H → va_D A [(wO6 sv n co sv_keep sv_scaled), (wO2 n n_nodes n_kind n_pay n_name n_ways n_held n_targets n_weights), (wI g n_kind 0 12 n_fkind), (wI g n_pay 0 12 n_fpay), (wI g n_ways 0 12 n_fways), (wI g n_held 0 12 n_fheld), (wI g n_targets 0 36 n_ftargets), (wI g n_weights 0 36 n_fweights), (wO10 vs vs_part x_95416), (wJ g vs_part 1 12 f_95417), (wJ g sv_scaled 1 12 f_95509)] → va_S A s.heap H locs → lv_has ls 5 [(4, .int x_95508), (3, .int x_95415), (0, .ref sv), (1, .int p0), (2, .ref vs)] → W p l e (headSpec (.code yX6_findWithin cX6_findWithin 5 none :: wsL_law) ({ frames := 3, cells := 0, slots := 0, locals := 75 })).room s m args below meth c H locs 0 0 (MQ below (va_Qv (fun (_ : Unit) => True) (fun _ t => ∃ ovw : Int64, ∃ ovp : Nat → Int64, ∃ osc : Nat → Int64, va_P D vwCl [(wO6 sv n co sv_keep sv_scaled), (wO2 n n_nodes n_kind n_pay n_name n_ways n_held n_targets n_weights), (wI g n_kind 0 12 n_fkind), (wI g n_pay 0 12 n_fpay), (wI g n_ways 0 12 n_fways), (wI g n_held 0 12 n_fheld), (wI g n_targets 0 36 n_ftargets), (wI g n_weights 0 36 n_fweights), (wO10 vs vs_part ovw), (wJ g vs_part 1 12 ovp), (wJ g sv_scaled 1 12 osc)] t.heap ∧ va_D A [(wO6 sv n co sv_keep sv_scaled), (wO2 n n_nodes n_kind n_pay n_name n_ways n_held n_targets n_weights), (wI g n_kind 0 12 n_fkind), (wI g n_pay 0 12 n_fpay), (wI g n_ways 0 12 n_fways), (wI g n_held 0 12 n_fheld), (wI g n_targets 0 36 n_ftargets), (wI g n_weights 0 36 n_fweights), (wO10 vs vs_part ovw), (wJ g vs_part 1 12 ovp), (wJ g sv_scaled 1 12 osc)]) A) args s 0 0 A) (F0 m 66 ls []) := by
                intro n_95510
                induction n_95510 with
                | zero =>
                  intro x_95508 f_95509 H locs ls h_x_95508 hm_95510 hP hD hS hl
                  exfalso; omega
                | succ n_95510 ih_95510 =>
                  intro x_95508 f_95509 H locs ls h_x_95508 hm_95510 hP hD hS hl
                  refine lv_iload hx hb dX6_findWithin_66 (lv_at hl 0 rfl) ?_
                  refine lv_aload_n hx hb dX6_findWithin_68 rfl (lv_at hl 2 rfl) ?_
                  refine va_get (D := D) (ci := 6) (v := .ref n) (C := RX6) (T := TX6) (N := 4) hx hb hts inlX6 hown hK hP 0 rfl rfl 0 (by decide) (hts (Cond.fieldLink RX6 19 "ChanceRings$Solver" "net" "LChanceRings$Net;") qw_548) (fun _ h9 => h9) rfl dX6_findWithin_69 ?_
                  refine va_get (D := D) (ci := 2) (v := .int n_nodes) (C := RX2) (T := TX2) (N := 8) hx hb hts inlX2 hown hK hP 1 rfl rfl 0 (by decide) (hts (Cond.fieldLink RX6 32 "ChanceRings$Net" "nodes" "I") qw_549) (fun _ h9 => h9) rfl dX6_findWithin_72 ?_
                  refine lv_icmp_ge (tgt := 98) hx hb dX6_findWithin_75 (by decide) (fun c_95511 => ?_) (fun c_95511 => ?_)
                  · skip
                    refine lv_aload_n hx hb dX6_findWithin_98 rfl (lv_at hl 2 rfl) ?_
                    refine va_get (D := D) (ci := 6) (v := .ref sv_scaled) (C := RX6) (T := TX6) (N := 4) hx hb hts inlX6 hown hK hP 0 rfl rfl 3 (by decide) (hts (Cond.fieldLink RX6 15 "ChanceRings$Solver" "scaled" "[J") qw_612) (fun _ h9 => h9) rfl dX6_findWithin_99 ?_
                    refine lv_iconst (v := 0) hx hb dX6_findWithin_102 (by decide) ?_
                    refine lv_aload_n hx hb dX6_findWithin_103 rfl (lv_at hl 4 rfl) ?_
                    refine va_get (D := D) (ci := 10) (v := .ref vs_part) (C := RX10) (T := TX10) (N := 2) hx hb hts inlX10 hown hK hP 8 rfl rfl 0 (by decide) (hts (Cond.fieldLink RX6 71 "ChanceRings$Values" "part" "[J") qw_553) (fun _ h9 => h9) rfl dX6_findWithin_104 ?_
                    refine lv_iconst (v := 0) hx hb dX6_findWithin_107 (by decide) ?_
                    refine lv_bipush (v := 12) hx hb dX6_findWithin_108 (by decide) ?_
                    refine va_copyl (ty := .long) hx hb (by rw [hml]; exact hl.1.symm) hown (hts (Cond.methodLink RX6 103 arraycopyName) qw_613) (hts (Cond.native arraycopyName) qw_343) (hts (Cond.static arraycopyName) qw_344) (hts (Cond.initialized "java/lang/System") qw_345) hK hP hD hS 10 9 1 1 rfl rfl rfl rfl rfl (by decide) (by decide) (by decide) (by decide +kernel) (by decide +kernel) (fun _ _ => rfl) (Nat.le_of_ble_eq_true rfl) (Nat.le_of_ble_eq_true rfl) dX6_findWithin_110 (fun H locs hP hD hS => ?_)
                    obtain ⟨f_95514, hP, hD⟩ : ∃ FX : Nat → Int64, va_P D vwCl [(wO6 sv n co sv_keep sv_scaled), (wO2 n n_nodes n_kind n_pay n_name n_ways n_held n_targets n_weights), (wI g n_kind 0 12 n_fkind), (wI g n_pay 0 12 n_fpay), (wI g n_ways 0 12 n_fways), (wI g n_held 0 12 n_fheld), (wI g n_targets 0 36 n_ftargets), (wI g n_weights 0 36 n_fweights), (wO10 vs vs_part x_95416), (wJ g vs_part 1 12 FX), (wJ g sv_scaled 1 12 f_95509)] H ∧ va_D A [(wO6 sv n co sv_keep sv_scaled), (wO2 n n_nodes n_kind n_pay n_name n_ways n_held n_targets n_weights), (wI g n_kind 0 12 n_fkind), (wI g n_pay 0 12 n_fpay), (wI g n_ways 0 12 n_fways), (wI g n_held 0 12 n_fheld), (wI g n_targets 0 36 n_ftargets), (wI g n_weights 0 36 n_fweights), (wO10 vs vs_part x_95416), (wJ g vs_part 1 12 FX), (wJ g sv_scaled 1 12 f_95509)] := ⟨_, hP, hD⟩
                    have hP : va_P D vwCl [(wO6 sv n co sv_keep sv_scaled), (wO2 n n_nodes n_kind n_pay n_name n_ways n_held n_targets n_weights), (wI g n_kind 0 12 n_fkind), (wI g n_pay 0 12 n_fpay), (wI g n_ways 0 12 n_fways), (wI g n_held 0 12 n_fheld), (wI g n_targets 0 36 n_ftargets), (wI g n_weights 0 36 n_fweights), (wO10 vs vs_part x_95416), (wJ g vs_part 1 12 f_95514), (wJ g sv_scaled 1 12 f_95509)] H := hP
                    have hD : va_D A [(wO6 sv n co sv_keep sv_scaled), (wO2 n n_nodes n_kind n_pay n_name n_ways n_held n_targets n_weights), (wI g n_kind 0 12 n_fkind), (wI g n_pay 0 12 n_fpay), (wI g n_ways 0 12 n_fways), (wI g n_held 0 12 n_fheld), (wI g n_targets 0 36 n_ftargets), (wI g n_weights 0 36 n_fweights), (wO10 vs vs_part x_95416), (wJ g vs_part 1 12 f_95514), (wJ g sv_scaled 1 12 f_95509)] := hD
                    refine lv_aload_n hx hb dX6_findWithin_113 rfl (lv_at hl 4 rfl) ?_
                    refine lv_dup hx hb dX6_findWithin_114 rfl ?_
                    refine va_get (D := D) (ci := 10) (v := .long x_95416) (C := RX10) (T := TX10) (N := 2) hx hb hts inlX10 hown hK hP 8 rfl rfl 1 (by decide) (hts (Cond.fieldLink RX6 92 "ChanceRings$Values" "whole" "J") qw_611) (fun _ h9 => h9) rfl dX6_findWithin_115 ?_
                    refine lv_ldc2 (v := 12) hx hb hown (hts (Cond.constantLong RX6 109 (12)) qw_610) dX6_findWithin_118 ?_
                    refine lv_lmul hx hb dX6_findWithin_121 ?_
                    refine lv_topl (fun w_95515 _ => ?_)
                    refine va_put (D := D) (ci := 10) (v := .long w_95515) (ty := .long) (C := RX10) (T := TX10) (N := 2) hx hb hts inlX10 tyX10 tyX10_ok nmX10 hown hK hP hD hS 8 rfl rfl 1 (by decide) (hts (Cond.fieldLink RX6 92 "ChanceRings$Values" "whole" "J") qw_611) (fun _ h9 => h9) rfl (by decide +kernel) rfl rfl (Nat.le_of_ble_eq_true rfl) dX6_findWithin_122 (fun H locs hP hD hS => ?_)
                    have hP : va_P D vwCl [(wO6 sv n co sv_keep sv_scaled), (wO2 n n_nodes n_kind n_pay n_name n_ways n_held n_targets n_weights), (wI g n_kind 0 12 n_fkind), (wI g n_pay 0 12 n_fpay), (wI g n_ways 0 12 n_fways), (wI g n_held 0 12 n_fheld), (wI g n_targets 0 36 n_ftargets), (wI g n_weights 0 36 n_fweights), (wO10 vs vs_part w_95515), (wJ g vs_part 1 12 f_95514), (wJ g sv_scaled 1 12 f_95509)] H := hP
                    have hD : va_D A [(wO6 sv n co sv_keep sv_scaled), (wO2 n n_nodes n_kind n_pay n_name n_ways n_held n_targets n_weights), (wI g n_kind 0 12 n_fkind), (wI g n_pay 0 12 n_fpay), (wI g n_ways 0 12 n_fways), (wI g n_held 0 12 n_fheld), (wI g n_targets 0 36 n_ftargets), (wI g n_weights 0 36 n_fweights), (wO10 vs vs_part w_95515), (wJ g vs_part 1 12 f_95514), (wJ g sv_scaled 1 12 f_95509)] := hD
                    obtain ⟨v_95516, v_95516_e⟩ : ∃ y : Int32, y = x_95415 + Int32.ofInt 1 := ⟨_, rfl⟩
                    have h_v_95516 : 1 ≤ (v_95516 : Int32).toInt ∧ (v_95516 : Int32).toInt ≤ 8 := by rw [v_95516_e]; exact tr_add h_95421 (⟨by decide, by decide⟩ : 1 ≤ (Int32.ofInt 1 : Int32).toInt ∧ (Int32.ofInt 1 : Int32).toInt ≤ 1) (by decide) (by decide) (by decide) (by decide)
                    have q_v_95516 : v_95516.toInt = x_95415.toInt + 1 := by rw [v_95516_e]; exact tr_addE h_95421 (⟨by decide, by decide⟩ : 1 ≤ (Int32.ofInt 1 : Int32).toInt ∧ (Int32.ofInt 1 : Int32).toInt ≤ 1) (by decide) (by decide)
                    refine lv_iinc (v := v_95516) (lv' := [(3, .int v_95516), (4, .int x_95508), (0, .ref sv), (1, .int p0), (2, .ref vs)]) hx hb dX6_findWithin_125 hl (k := 1) rfl v_95516_e.symm (by decide) rfl (fun ls hl => ?_)
                    refine lv_goto (tgt := 58) hx hb dX6_findWithin_128 (by decide) ?_
                    exact ih_95419 v_95516 w_95515 f_95514 f_95509 H _ ls (tr_w h_v_95516 (by decide) (by decide)) (by omega) (hP.sub [0, 1, 2, 3, 4, 5, 6, 7, 8, 9, 10] rfl) (hD.sub [0, 1, 2, 3, 4, 5, 6, 7, 8, 9, 10] (by decide) rfl) hS (lv_sub hl [0, 2, 3, 4] rfl)
                  · skip
                    have c_95511_i := Int32.lt_iff_toInt_lt.mp (Int32.not_le.mp c_95511)
                    have h_95512 : 0 ≤ (x_95508 : Int32).toInt ∧ (x_95508 : Int32).toInt ≤ 11 := nr_lt_l h_x_95508 h_n_nodes c_95511_i (by decide) (by decide)
                    have h_95513 : 1 ≤ (n_nodes : Int32).toInt ∧ (n_nodes : Int32).toInt ≤ 12 := nr_lt_r h_x_95508 h_n_nodes c_95511_i (by decide) (by decide)
                    refine lv_aload_n hx hb dX6_findWithin_78 rfl (lv_at hl 2 rfl) ?_
                    refine va_get (D := D) (ci := 6) (v := .ref sv_scaled) (C := RX6) (T := TX6) (N := 4) hx hb hts inlX6 hown hK hP 0 rfl rfl 3 (by decide) (hts (Cond.fieldLink RX6 15 "ChanceRings$Solver" "scaled" "[J") qw_612) (fun _ h9 => h9) rfl dX6_findWithin_79 ?_
                    refine lv_iload hx hb dX6_findWithin_82 (lv_at hl 0 rfl) ?_
                    refine lv_aload_n hx hb dX6_findWithin_84 rfl (lv_at hl 2 rfl) ?_
                    refine lv_iload hx hb dX6_findWithin_85 (lv_at hl 0 rfl) ?_
                    refine lv_aload_n hx hb dX6_findWithin_87 rfl (lv_at hl 4 rfl) ?_
                    have hPc := hP.sub (ws' := [(wO6 sv n co sv_keep sv_scaled), (wO2 n n_nodes n_kind n_pay n_name n_ways n_held n_targets n_weights), (wI g n_kind 0 12 n_fkind), (wI g n_ways 0 12 n_fways), (wI g n_held 0 12 n_fheld), (wI g n_targets 0 36 n_ftargets), (wI g n_weights 0 36 n_fweights), (wO10 vs vs_part x_95416), (wJ g vs_part 1 12 f_95417)]) [0, 1, 2, 4, 5, 6, 7, 8, 9] rfl
                    refine vp_callSl (va_Run.run (va_runV (As := [.int x_95508, .ref vs]) (rest := [.int x_95508, .ref sv_scaled]) ⟨hx, hb, hml, hown, hts⟩ (c_X6_oneMoveMore l D g sv x_95508 vs n co sv_keep sv_scaled n_nodes n_kind n_pay n_name n_ways n_held n_targets n_weights n_fkind n_fways n_fheld n_ftargets n_fweights vs_part x_95416 f_95417 (tr_w h_95512 (by decide) (by decide)) (tr_w h_95513 (by decide) (by decide)) (tr_wa h_n_fkind (by decide) (by decide)) (tr_wa h_n_fways (by decide) (by decide)) (tr_wa h_n_fheld (by decide) (by decide)) (tr_wa h_n_ftargets (by decide) (by decide))) (cwV 2 hts (tz_gV qw_615 qw_616 qw_617 qw_558 qw_618) rfl rfl rfl (by decide +kernel) ⟨Nat.le_of_ble_eq_true rfl, Nat.le_of_ble_eq_true rfl⟩) ⟨tz_blS, va_recv hK hPc (ci := 6) (q0 := 0) rfl rfl, tz_preS hPc hK⟩ rfl rfl hl.1 rfl (lv_room (Nat.le_of_ble_eq_true rfl)) dX6_findWithin_88 ⟨Nat.le_of_ble_eq_true rfl, Nat.le_of_ble_eq_true rfl⟩)) (fun r_95517 hw => ?_)
                    refine va_last hx hb hK hP hD hS 10 1 rfl rfl (tr_in h_95512 (by decide) (by decide)) dX6_findWithin_91 (fun H locs hP hD hS => ?_)
                    obtain ⟨f_95518, hP, hD⟩ : ∃ FX : Nat → Int64, va_P D vwCl [(wO6 sv n co sv_keep sv_scaled), (wO2 n n_nodes n_kind n_pay n_name n_ways n_held n_targets n_weights), (wI g n_kind 0 12 n_fkind), (wI g n_pay 0 12 n_fpay), (wI g n_ways 0 12 n_fways), (wI g n_held 0 12 n_fheld), (wI g n_targets 0 36 n_ftargets), (wI g n_weights 0 36 n_fweights), (wO10 vs vs_part x_95416), (wJ g vs_part 1 12 f_95417), (wJ g sv_scaled 1 12 FX)] H ∧ va_D A [(wO6 sv n co sv_keep sv_scaled), (wO2 n n_nodes n_kind n_pay n_name n_ways n_held n_targets n_weights), (wI g n_kind 0 12 n_fkind), (wI g n_pay 0 12 n_fpay), (wI g n_ways 0 12 n_fways), (wI g n_held 0 12 n_fheld), (wI g n_targets 0 36 n_ftargets), (wI g n_weights 0 36 n_fweights), (wO10 vs vs_part x_95416), (wJ g vs_part 1 12 f_95417), (wJ g sv_scaled 1 12 FX)] := ⟨_, hP, hD⟩
                    have hP : va_P D vwCl [(wO6 sv n co sv_keep sv_scaled), (wO2 n n_nodes n_kind n_pay n_name n_ways n_held n_targets n_weights), (wI g n_kind 0 12 n_fkind), (wI g n_pay 0 12 n_fpay), (wI g n_ways 0 12 n_fways), (wI g n_held 0 12 n_fheld), (wI g n_targets 0 36 n_ftargets), (wI g n_weights 0 36 n_fweights), (wO10 vs vs_part x_95416), (wJ g vs_part 1 12 f_95417), (wJ g sv_scaled 1 12 f_95518)] H := hP
                    have hD : va_D A [(wO6 sv n co sv_keep sv_scaled), (wO2 n n_nodes n_kind n_pay n_name n_ways n_held n_targets n_weights), (wI g n_kind 0 12 n_fkind), (wI g n_pay 0 12 n_fpay), (wI g n_ways 0 12 n_fways), (wI g n_held 0 12 n_fheld), (wI g n_targets 0 36 n_ftargets), (wI g n_weights 0 36 n_fweights), (wO10 vs vs_part x_95416), (wJ g vs_part 1 12 f_95417), (wJ g sv_scaled 1 12 f_95518)] := hD
                    obtain ⟨v_95519, v_95519_e⟩ : ∃ y : Int32, y = x_95508 + Int32.ofInt 1 := ⟨_, rfl⟩
                    have h_v_95519 : 1 ≤ (v_95519 : Int32).toInt ∧ (v_95519 : Int32).toInt ≤ 12 := by rw [v_95519_e]; exact tr_add h_95512 (⟨by decide, by decide⟩ : 1 ≤ (Int32.ofInt 1 : Int32).toInt ∧ (Int32.ofInt 1 : Int32).toInt ≤ 1) (by decide) (by decide) (by decide) (by decide)
                    have q_v_95519 : v_95519.toInt = x_95508.toInt + 1 := by rw [v_95519_e]; exact tr_addE h_95512 (⟨by decide, by decide⟩ : 1 ≤ (Int32.ofInt 1 : Int32).toInt ∧ (Int32.ofInt 1 : Int32).toInt ≤ 1) (by decide) (by decide)
                    refine lv_iinc (v := v_95519) (lv' := [(4, .int v_95519), (3, .int x_95415), (0, .ref sv), (1, .int p0), (2, .ref vs)]) hx hb dX6_findWithin_92 hl (k := 0) rfl v_95519_e.symm (by decide) rfl (fun ls hl => ?_)
                    refine lv_goto (tgt := 66) hx hb dX6_findWithin_95 (by decide) ?_
                    exact ih_95510 v_95519 f_95518 H _ ls (tr_w h_v_95519 (by decide) (by decide)) (by (first | (clear h_p0 h_x_94804 h_x_95415 c_95420_i h_95421 h_95422; omega) | omega)) (hP.sub [0, 1, 2, 3, 4, 5, 6, 7, 8, 9, 10] rfl) (hD.sub [0, 1, 2, 3, 4, 5, 6, 7, 8, 9, 10] (by decide) rfl) hS (lv_sub hl [0, 1, 2, 3, 4] rfl)
              exact lp_95510 13 0 f_95418 H _ ls (⟨by decide, by decide⟩ : 0 ≤ (0 : Int32).toInt ∧ (0 : Int32).toInt ≤ 12) (by decide) (hP.sub [0, 1, 2, 3, 4, 5, 6, 7, 8, 9, 10] rfl) (hD.sub [0, 1, 2, 3, 4, 5, 6, 7, 8, 9, 10] (by decide) rfl) hS (lv_sub hl [0, 1, 2, 3, 4] rfl)
        exact lp_95419 9 0 1 f_94805 scf H _ ls (⟨by decide, by decide⟩ : 0 ≤ (0 : Int32).toInt ∧ (0 : Int32).toInt ≤ 8) (by decide) (hP.sub [0, 1, 2, 3, 4, 5, 6, 7, 8, 9, 10] rfl) (hD.sub [0, 1, 2, 3, 4, 5, 6, 7, 8, 9, 10] (by decide) rfl) hS (lv_sub hl [0, 1, 2, 3] rfl)
      · skip
        have c_94807_i := Int32.lt_iff_toInt_lt.mp (Int32.not_le.mp c_94807)
        have h_94808 : 0 ≤ (x_94804 : Int32).toInt ∧ (x_94804 : Int32).toInt ≤ 11 := nr_lt_l h_x_94804 h_n_nodes c_94807_i (by decide) (by decide)
        have h_94809 : 1 ≤ (n_nodes : Int32).toInt ∧ (n_nodes : Int32).toInt ≤ 12 := nr_lt_r h_x_94804 h_n_nodes c_94807_i (by decide) (by decide)
        refine lv_aload_n hx hb dX6_findWithin_18 rfl (lv_at hl 3 rfl) ?_
        refine va_get (D := D) (ci := 10) (v := .ref vs_part) (C := RX10) (T := TX10) (N := 2) hx hb hts inlX10 hown hK hP 8 rfl rfl 0 (by decide) (hts (Cond.fieldLink RX6 71 "ChanceRings$Values" "part" "[J") qw_553) (fun _ h9 => h9) rfl dX6_findWithin_19 ?_
        refine lv_iload_n hx hb dX6_findWithin_22 rfl (lv_at hl 0 rfl) ?_
        refine lv_aload_n hx hb dX6_findWithin_23 rfl (lv_at hl 1 rfl) ?_
        refine va_get (D := D) (ci := 6) (v := .ref n) (C := RX6) (T := TX6) (N := 4) hx hb hts inlX6 hown hK hP 0 rfl rfl 0 (by decide) (hts (Cond.fieldLink RX6 19 "ChanceRings$Solver" "net" "LChanceRings$Net;") qw_548) (fun _ h9 => h9) rfl dX6_findWithin_24 ?_
        refine va_get (D := D) (ci := 2) (v := .ref n_kind) (C := RX2) (T := TX2) (N := 8) hx hb hts inlX2 hown hK hP 1 rfl rfl 1 (by decide) (hts (Cond.fieldLink RX6 61 "ChanceRings$Net" "kind" "[I") qw_551) (fun _ h9 => h9) rfl dX6_findWithin_27 ?_
        refine lv_iload_n hx hb dX6_findWithin_30 rfl (lv_at hl 0 rfl) ?_
        refine va_iald hx hb hK hP 2 0 rfl rfl (tr_in h_94808 (by decide) (by decide)) dX6_findWithin_31 ?_
        refine lv_topi (fun v_95520 v_95520_e => ?_)
        have h_v_95520 : 0 ≤ (v_95520 : Int32).toInt ∧ (v_95520 : Int32).toInt ≤ 3 := by rw [v_95520_e]; exact h_n_fkind _
        refine lv_if_ne (tgt := 48) hx hb dX6_findWithin_32 (by decide) (fun c_95521 => ?_) (fun c_95521 => ?_)
        · skip
          have c_95521_i : ¬ (v_95520 : Int32).toInt = (0 : Int32).toInt := (fun q => c_95521 (Int32.toInt_inj.mp q))
          have h_95522 : 1 ≤ (v_95520 : Int32).toInt ∧ (v_95520 : Int32).toInt ≤ 3 := nr_ne_l h_v_95520 (⟨by decide, by decide⟩ : 0 ≤ (0 : Int32).toInt ∧ (0 : Int32).toInt ≤ 0) c_95521_i (by decide) (by decide)
          refine lv_lconst (v := 0) hx hb dX6_findWithin_48 (by decide) ?_
          refine va_last hx hb hK hP hD hS 9 1 rfl rfl (tr_in h_94808 (by decide) (by decide)) dX6_findWithin_49 (fun H locs hP hD hS => ?_)
          obtain ⟨f_95524, hP, hD⟩ : ∃ FX : Nat → Int64, va_P D vwCl [(wO6 sv n co sv_keep sv_scaled), (wO2 n n_nodes n_kind n_pay n_name n_ways n_held n_targets n_weights), (wI g n_kind 0 12 n_fkind), (wI g n_pay 0 12 n_fpay), (wI g n_ways 0 12 n_fways), (wI g n_held 0 12 n_fheld), (wI g n_targets 0 36 n_ftargets), (wI g n_weights 0 36 n_fweights), (wO10 vs vs_part 1), (wJ g vs_part 1 12 FX), (wJ g sv_scaled 1 12 scf)] H ∧ va_D A [(wO6 sv n co sv_keep sv_scaled), (wO2 n n_nodes n_kind n_pay n_name n_ways n_held n_targets n_weights), (wI g n_kind 0 12 n_fkind), (wI g n_pay 0 12 n_fpay), (wI g n_ways 0 12 n_fways), (wI g n_held 0 12 n_fheld), (wI g n_targets 0 36 n_ftargets), (wI g n_weights 0 36 n_fweights), (wO10 vs vs_part 1), (wJ g vs_part 1 12 FX), (wJ g sv_scaled 1 12 scf)] := ⟨_, hP, hD⟩
          have hP : va_P D vwCl [(wO6 sv n co sv_keep sv_scaled), (wO2 n n_nodes n_kind n_pay n_name n_ways n_held n_targets n_weights), (wI g n_kind 0 12 n_fkind), (wI g n_pay 0 12 n_fpay), (wI g n_ways 0 12 n_fways), (wI g n_held 0 12 n_fheld), (wI g n_targets 0 36 n_ftargets), (wI g n_weights 0 36 n_fweights), (wO10 vs vs_part 1), (wJ g vs_part 1 12 f_95524), (wJ g sv_scaled 1 12 scf)] H := hP
          have hD : va_D A [(wO6 sv n co sv_keep sv_scaled), (wO2 n n_nodes n_kind n_pay n_name n_ways n_held n_targets n_weights), (wI g n_kind 0 12 n_fkind), (wI g n_pay 0 12 n_fpay), (wI g n_ways 0 12 n_fways), (wI g n_held 0 12 n_fheld), (wI g n_targets 0 36 n_ftargets), (wI g n_weights 0 36 n_fweights), (wO10 vs vs_part 1), (wJ g vs_part 1 12 f_95524), (wJ g sv_scaled 1 12 scf)] := hD
          obtain ⟨v_95525, v_95525_e⟩ : ∃ y : Int32, y = x_94804 + Int32.ofInt 1 := ⟨_, rfl⟩
          have h_v_95525 : 1 ≤ (v_95525 : Int32).toInt ∧ (v_95525 : Int32).toInt ≤ 12 := by rw [v_95525_e]; exact tr_add h_94808 (⟨by decide, by decide⟩ : 1 ≤ (Int32.ofInt 1 : Int32).toInt ∧ (Int32.ofInt 1 : Int32).toInt ≤ 1) (by decide) (by decide) (by decide) (by decide)
          have q_v_95525 : v_95525.toInt = x_94804.toInt + 1 := by rw [v_95525_e]; exact tr_addE h_94808 (⟨by decide, by decide⟩ : 1 ≤ (Int32.ofInt 1 : Int32).toInt ∧ (Int32.ofInt 1 : Int32).toInt ≤ 1) (by decide) (by decide)
          refine lv_iinc (v := v_95525) (lv' := [(3, .int v_95525), (0, .ref sv), (1, .int p0), (2, .ref vs)]) hx hb dX6_findWithin_50 hl (k := 0) rfl v_95525_e.symm (by decide) rfl (fun ls hl => ?_)
          refine lv_goto (tgt := 7) hx hb dX6_findWithin_53 (by decide) ?_
          exact ih_94806 v_95525 f_95524 H _ ls (tr_w h_v_95525 (by decide) (by decide)) (by (first | (clear h_p0 h_v_95520 c_95521_i h_95522; omega) | omega)) (hP.sub [0, 1, 2, 3, 4, 5, 6, 7, 8, 9, 10] rfl) (hD.sub [0, 1, 2, 3, 4, 5, 6, 7, 8, 9, 10] (by decide) rfl) hS (lv_sub hl [0, 1, 2, 3] rfl)
        · skip
          have c_95521_i : (v_95520 : Int32).toInt = (0 : Int32).toInt := congrArg Int32.toInt c_95521
          have h_95523 : 0 ≤ (v_95520 : Int32).toInt ∧ (v_95520 : Int32).toInt ≤ 0 := nr_eq_l h_v_95520 (⟨by decide, by decide⟩ : 0 ≤ (0 : Int32).toInt ∧ (0 : Int32).toInt ≤ 0) c_95521_i (by decide) (by decide)
          refine lv_aload_n hx hb dX6_findWithin_35 rfl (lv_at hl 1 rfl) ?_
          refine va_get (D := D) (ci := 6) (v := .ref n) (C := RX6) (T := TX6) (N := 4) hx hb hts inlX6 hown hK hP 0 rfl rfl 0 (by decide) (hts (Cond.fieldLink RX6 19 "ChanceRings$Solver" "net" "LChanceRings$Net;") qw_548) (fun _ h9 => h9) rfl dX6_findWithin_36 ?_
          refine va_get (D := D) (ci := 2) (v := .ref n_pay) (C := RX2) (T := TX2) (N := 8) hx hb hts inlX2 hown hK hP 1 rfl rfl 2 (by decide) (hts (Cond.fieldLink RX6 96 "ChanceRings$Net" "pay" "[I") qw_614) (fun _ h9 => h9) rfl dX6_findWithin_39 ?_
          refine lv_iload_n hx hb dX6_findWithin_42 rfl (lv_at hl 0 rfl) ?_
          refine va_iald hx hb hK hP 3 0 rfl rfl (tr_in h_94808 (by decide) (by decide)) dX6_findWithin_43 ?_
          refine lv_topi (fun v_95526 v_95526_e => ?_)
          refine lv_i2l hx hb dX6_findWithin_44 rfl ?_
          refine lv_topl (fun w_95527 _ => ?_)
          refine lv_goto (tgt := 49) hx hb dX6_findWithin_45 (by decide) ?_
          refine va_last hx hb hK hP hD hS 9 1 rfl rfl (tr_in h_94808 (by decide) (by decide)) dX6_findWithin_49 (fun H locs hP hD hS => ?_)
          obtain ⟨f_95528, hP, hD⟩ : ∃ FX : Nat → Int64, va_P D vwCl [(wO6 sv n co sv_keep sv_scaled), (wO2 n n_nodes n_kind n_pay n_name n_ways n_held n_targets n_weights), (wI g n_kind 0 12 n_fkind), (wI g n_pay 0 12 n_fpay), (wI g n_ways 0 12 n_fways), (wI g n_held 0 12 n_fheld), (wI g n_targets 0 36 n_ftargets), (wI g n_weights 0 36 n_fweights), (wO10 vs vs_part 1), (wJ g vs_part 1 12 FX), (wJ g sv_scaled 1 12 scf)] H ∧ va_D A [(wO6 sv n co sv_keep sv_scaled), (wO2 n n_nodes n_kind n_pay n_name n_ways n_held n_targets n_weights), (wI g n_kind 0 12 n_fkind), (wI g n_pay 0 12 n_fpay), (wI g n_ways 0 12 n_fways), (wI g n_held 0 12 n_fheld), (wI g n_targets 0 36 n_ftargets), (wI g n_weights 0 36 n_fweights), (wO10 vs vs_part 1), (wJ g vs_part 1 12 FX), (wJ g sv_scaled 1 12 scf)] := ⟨_, hP, hD⟩
          have hP : va_P D vwCl [(wO6 sv n co sv_keep sv_scaled), (wO2 n n_nodes n_kind n_pay n_name n_ways n_held n_targets n_weights), (wI g n_kind 0 12 n_fkind), (wI g n_pay 0 12 n_fpay), (wI g n_ways 0 12 n_fways), (wI g n_held 0 12 n_fheld), (wI g n_targets 0 36 n_ftargets), (wI g n_weights 0 36 n_fweights), (wO10 vs vs_part 1), (wJ g vs_part 1 12 f_95528), (wJ g sv_scaled 1 12 scf)] H := hP
          have hD : va_D A [(wO6 sv n co sv_keep sv_scaled), (wO2 n n_nodes n_kind n_pay n_name n_ways n_held n_targets n_weights), (wI g n_kind 0 12 n_fkind), (wI g n_pay 0 12 n_fpay), (wI g n_ways 0 12 n_fways), (wI g n_held 0 12 n_fheld), (wI g n_targets 0 36 n_ftargets), (wI g n_weights 0 36 n_fweights), (wO10 vs vs_part 1), (wJ g vs_part 1 12 f_95528), (wJ g sv_scaled 1 12 scf)] := hD
          obtain ⟨v_95529, v_95529_e⟩ : ∃ y : Int32, y = x_94804 + Int32.ofInt 1 := ⟨_, rfl⟩
          have h_v_95529 : 1 ≤ (v_95529 : Int32).toInt ∧ (v_95529 : Int32).toInt ≤ 12 := by rw [v_95529_e]; exact tr_add h_94808 (⟨by decide, by decide⟩ : 1 ≤ (Int32.ofInt 1 : Int32).toInt ∧ (Int32.ofInt 1 : Int32).toInt ≤ 1) (by decide) (by decide) (by decide) (by decide)
          have q_v_95529 : v_95529.toInt = x_94804.toInt + 1 := by rw [v_95529_e]; exact tr_addE h_94808 (⟨by decide, by decide⟩ : 1 ≤ (Int32.ofInt 1 : Int32).toInt ∧ (Int32.ofInt 1 : Int32).toInt ≤ 1) (by decide) (by decide)
          refine lv_iinc (v := v_95529) (lv' := [(3, .int v_95529), (0, .ref sv), (1, .int p0), (2, .ref vs)]) hx hb dX6_findWithin_50 hl (k := 0) rfl v_95529_e.symm (by decide) rfl (fun ls hl => ?_)
          refine lv_goto (tgt := 7) hx hb dX6_findWithin_53 (by decide) ?_
          exact ih_94806 v_95529 f_95528 H _ ls (tr_w h_v_95529 (by decide) (by decide)) (by (first | (clear h_p0 h_v_95520 c_95521_i h_95523; omega) | omega)) (hP.sub [0, 1, 2, 3, 4, 5, 6, 7, 8, 9, 10] rfl) (hD.sub [0, 1, 2, 3, 4, 5, 6, 7, 8, 9, 10] (by decide) rfl) hS (lv_sub hl [0, 1, 2, 3] rfl)
  exact lp_94806 13 0 vsp H _ ls (⟨by decide, by decide⟩ : 0 ≤ (0 : Int32).toInt ∧ (0 : Int32).toInt ≤ 12) (by decide) (hP.sub [0, 1, 2, 3, 4, 5, 6, 7, 8, 9, 10] rfl) (hD.sub [0, 1, 2, 3, 4, 5, 6, 7, 8, 9, 10] (by decide) rfl) hS (lv_sub hl [0, 1, 2, 3] rfl)
theorem qw_619 : Cond.fieldLink RX7 24 "ChanceRings$Steps" "count" "I" ∈ wsL_law := tseg_1 (by decide +kernel) (List.mem_of_getElem? (i := 219) rfl)
theorem qw_620 : Cond.fieldLink RX7 9 "ChanceRings$Steps" "what" "[I" ∈ wsL_law := tseg_1 (by decide +kernel) (List.mem_of_getElem? (i := 215) rfl)
theorem qw_621 : Cond.methodLink RX7 31 arraycopyName ∈ wsL_law := tseg_4 (by decide +kernel) (List.mem_of_getElem? (i := 25) rfl)
theorem qw_622 : Cond.fieldLink RX7 15 "ChanceRings$Steps" "node" "[I" ∈ wsL_law := tseg_1 (by decide +kernel) (List.mem_of_getElem? (i := 216) rfl)
theorem qw_623 : Cond.fieldLink RX7 18 "ChanceRings$Steps" "index" "[I" ∈ wsL_law := tseg_1 (by decide +kernel) (List.mem_of_getElem? (i := 217) rfl)
theorem qw_624 : Cond.fieldLink RX7 21 "ChanceRings$Steps" "before" "[I" ∈ wsL_law := tseg_1 (by decide +kernel) (List.mem_of_getElem? (i := 218) rfl)
theorem qw_625 : Cond.methodLink RX7 28 yX7_forgetOldest ∈ wsL_law := tseg_4 (by decide +kernel) (List.mem_of_getElem? (i := 21) rfl)
theorem qw_626 : Cond.instanceMethod yX7_forgetOldest ∈ wsL_law := tseg_4 (by decide +kernel) (List.mem_of_getElem? (i := 23) rfl)
theorem qw_627 : Cond.selects RX7 yX7_forgetOldest yX7_forgetOldest ∈ wsL_law := List.mem_filter.mpr ⟨List.mem_append_left _ (List.mem_of_getElem? (i := 32) rfl), by decide +kernel⟩
theorem qw_628 : Cond.initialized RX7 ∈ wsL_law := tseg_1 (by decide +kernel) (List.mem_of_getElem? (i := 9) rfl)
theorem qw_629 : Cond.code yX7_forgetOldest cX7_forgetOldest 1 none ∈ wsL_law := tseg_4 (by decide +kernel) (List.mem_of_getElem? (i := 24) rfl)
theorem qw_630 : Cond.fieldLink RX7 37 "ChanceRings$Net" "held" "[I" ∈ wsL_law := tseg_1 (by decide +kernel) (List.mem_of_getElem? (i := 87) rfl)
theorem qw_631 : Cond.methodLink RX7 42 yX2_setWeight ∈ wsL_law := tseg_4 (by decide +kernel) (List.mem_of_getElem? (i := 206) rfl)
theorem qw_632 : Cond.instanceMethod yX2_setWeight ∈ wsL_law := tseg_4 (by decide +kernel) (List.mem_of_getElem? (i := 40) rfl)
theorem qw_633 : Cond.selects RX2 yX2_setWeight yX2_setWeight ∈ wsL_law := tseg_4 (by decide +kernel) (List.mem_of_getElem? (i := 41) rfl)
theorem qw_634 : Cond.code yX2_setWeight cX2_setWeight 4 none ∈ wsL_law := tseg_4 (by decide +kernel) (List.mem_of_getElem? (i := 42) rfl)
theorem qw_635 : Cond.fieldLink RX7 46 "ChanceRings$Net" "pay" "[I" ∈ wsL_law := tseg_1 (by decide +kernel) (List.mem_of_getElem? (i := 72) rfl)
theorem dX7_add_0 : decode cX7_add 0 = .ok (.aload_n 0, 1) := by decide +kernel
theorem dX7_add_1 : decode cX7_add 1 = .ok (.getfield 24, 3) := by decide +kernel
theorem dX7_add_4 : decode cX7_add 4 = .ok (.bipush 8, 2) := by decide +kernel
theorem dX7_add_6 : decode cX7_add 6 = .ok (.if_icmp .lt 7, 3) := by decide +kernel
theorem dX7_add_9 : decode cX7_add 9 = .ok (.aload_n 0, 1) := by decide +kernel
theorem dX7_add_10 : decode cX7_add 10 = .ok (.invokevirtual 28, 3) := by decide +kernel
theorem dX7_add_13 : decode cX7_add 13 = .ok (.aload_n 0, 1) := by decide +kernel
theorem dX7_add_14 : decode cX7_add 14 = .ok (.getfield 9, 3) := by decide +kernel
theorem dX7_add_17 : decode cX7_add 17 = .ok (.aload_n 0, 1) := by decide +kernel
theorem dX7_add_18 : decode cX7_add 18 = .ok (.getfield 24, 3) := by decide +kernel
theorem dX7_add_21 : decode cX7_add 21 = .ok (.iload_n 1, 1) := by decide +kernel
theorem dX7_add_22 : decode cX7_add 22 = .ok (.iastore, 1) := by decide +kernel
theorem dX7_add_23 : decode cX7_add 23 = .ok (.aload_n 0, 1) := by decide +kernel
theorem dX7_add_24 : decode cX7_add 24 = .ok (.getfield 15, 3) := by decide +kernel
theorem dX7_add_27 : decode cX7_add 27 = .ok (.aload_n 0, 1) := by decide +kernel
theorem dX7_add_28 : decode cX7_add 28 = .ok (.getfield 24, 3) := by decide +kernel
theorem dX7_add_31 : decode cX7_add 31 = .ok (.iload_n 2, 1) := by decide +kernel
theorem dX7_add_32 : decode cX7_add 32 = .ok (.iastore, 1) := by decide +kernel
theorem dX7_add_33 : decode cX7_add 33 = .ok (.aload_n 0, 1) := by decide +kernel
theorem dX7_add_34 : decode cX7_add 34 = .ok (.getfield 18, 3) := by decide +kernel
theorem dX7_add_37 : decode cX7_add 37 = .ok (.aload_n 0, 1) := by decide +kernel
theorem dX7_add_38 : decode cX7_add 38 = .ok (.getfield 24, 3) := by decide +kernel
theorem dX7_add_41 : decode cX7_add 41 = .ok (.iload_n 3, 1) := by decide +kernel
theorem dX7_add_42 : decode cX7_add 42 = .ok (.iastore, 1) := by decide +kernel
theorem dX7_add_43 : decode cX7_add 43 = .ok (.aload_n 0, 1) := by decide +kernel
theorem dX7_add_44 : decode cX7_add 44 = .ok (.getfield 21, 3) := by decide +kernel
theorem dX7_add_47 : decode cX7_add 47 = .ok (.aload_n 0, 1) := by decide +kernel
theorem dX7_add_48 : decode cX7_add 48 = .ok (.getfield 24, 3) := by decide +kernel
theorem dX7_add_51 : decode cX7_add 51 = .ok (.iload 4, 2) := by decide +kernel
theorem dX7_add_53 : decode cX7_add 53 = .ok (.iastore, 1) := by decide +kernel
theorem dX7_add_54 : decode cX7_add 54 = .ok (.aload_n 0, 1) := by decide +kernel
theorem dX7_add_55 : decode cX7_add 55 = .ok (.dup, 1) := by decide +kernel
theorem dX7_add_56 : decode cX7_add 56 = .ok (.getfield 24, 3) := by decide +kernel
theorem dX7_add_59 : decode cX7_add 59 = .ok (.iconst 1, 1) := by decide +kernel
theorem dX7_add_60 : decode cX7_add 60 = .ok (.iadd, 1) := by decide +kernel
theorem dX7_add_61 : decode cX7_add 61 = .ok (.putfield 24, 3) := by decide +kernel
theorem dX7_add_64 : decode cX7_add 64 = .ok (.return_, 1) := by decide +kernel
theorem dX7_forgetOldest_0 : decode cX7_forgetOldest 0 = .ok (.aload_n 0, 1) := by decide +kernel
theorem dX7_forgetOldest_1 : decode cX7_forgetOldest 1 = .ok (.bipush 7, 2) := by decide +kernel
theorem dX7_forgetOldest_3 : decode cX7_forgetOldest 3 = .ok (.putfield 24, 3) := by decide +kernel
theorem dX7_forgetOldest_6 : decode cX7_forgetOldest 6 = .ok (.aload_n 0, 1) := by decide +kernel
theorem dX7_forgetOldest_7 : decode cX7_forgetOldest 7 = .ok (.getfield 9, 3) := by decide +kernel
theorem dX7_forgetOldest_10 : decode cX7_forgetOldest 10 = .ok (.iconst 1, 1) := by decide +kernel
theorem dX7_forgetOldest_11 : decode cX7_forgetOldest 11 = .ok (.aload_n 0, 1) := by decide +kernel
theorem dX7_forgetOldest_12 : decode cX7_forgetOldest 12 = .ok (.getfield 9, 3) := by decide +kernel
theorem dX7_forgetOldest_15 : decode cX7_forgetOldest 15 = .ok (.iconst 0, 1) := by decide +kernel
theorem dX7_forgetOldest_16 : decode cX7_forgetOldest 16 = .ok (.aload_n 0, 1) := by decide +kernel
theorem dX7_forgetOldest_17 : decode cX7_forgetOldest 17 = .ok (.getfield 24, 3) := by decide +kernel
theorem dX7_forgetOldest_20 : decode cX7_forgetOldest 20 = .ok (.invokestatic 31, 3) := by decide +kernel
theorem dX7_forgetOldest_23 : decode cX7_forgetOldest 23 = .ok (.aload_n 0, 1) := by decide +kernel
theorem dX7_forgetOldest_24 : decode cX7_forgetOldest 24 = .ok (.getfield 15, 3) := by decide +kernel
theorem dX7_forgetOldest_27 : decode cX7_forgetOldest 27 = .ok (.iconst 1, 1) := by decide +kernel
theorem dX7_forgetOldest_28 : decode cX7_forgetOldest 28 = .ok (.aload_n 0, 1) := by decide +kernel
theorem dX7_forgetOldest_29 : decode cX7_forgetOldest 29 = .ok (.getfield 15, 3) := by decide +kernel
theorem dX7_forgetOldest_32 : decode cX7_forgetOldest 32 = .ok (.iconst 0, 1) := by decide +kernel
theorem dX7_forgetOldest_33 : decode cX7_forgetOldest 33 = .ok (.aload_n 0, 1) := by decide +kernel
theorem dX7_forgetOldest_34 : decode cX7_forgetOldest 34 = .ok (.getfield 24, 3) := by decide +kernel
theorem dX7_forgetOldest_37 : decode cX7_forgetOldest 37 = .ok (.invokestatic 31, 3) := by decide +kernel
theorem dX7_forgetOldest_40 : decode cX7_forgetOldest 40 = .ok (.aload_n 0, 1) := by decide +kernel
theorem dX7_forgetOldest_41 : decode cX7_forgetOldest 41 = .ok (.getfield 18, 3) := by decide +kernel
theorem dX7_forgetOldest_44 : decode cX7_forgetOldest 44 = .ok (.iconst 1, 1) := by decide +kernel
theorem dX7_forgetOldest_45 : decode cX7_forgetOldest 45 = .ok (.aload_n 0, 1) := by decide +kernel
theorem dX7_forgetOldest_46 : decode cX7_forgetOldest 46 = .ok (.getfield 18, 3) := by decide +kernel
theorem dX7_forgetOldest_49 : decode cX7_forgetOldest 49 = .ok (.iconst 0, 1) := by decide +kernel
theorem dX7_forgetOldest_50 : decode cX7_forgetOldest 50 = .ok (.aload_n 0, 1) := by decide +kernel
theorem dX7_forgetOldest_51 : decode cX7_forgetOldest 51 = .ok (.getfield 24, 3) := by decide +kernel
theorem dX7_forgetOldest_54 : decode cX7_forgetOldest 54 = .ok (.invokestatic 31, 3) := by decide +kernel
theorem dX7_forgetOldest_57 : decode cX7_forgetOldest 57 = .ok (.aload_n 0, 1) := by decide +kernel
theorem dX7_forgetOldest_58 : decode cX7_forgetOldest 58 = .ok (.getfield 21, 3) := by decide +kernel
theorem dX7_forgetOldest_61 : decode cX7_forgetOldest 61 = .ok (.iconst 1, 1) := by decide +kernel
theorem dX7_forgetOldest_62 : decode cX7_forgetOldest 62 = .ok (.aload_n 0, 1) := by decide +kernel
theorem dX7_forgetOldest_63 : decode cX7_forgetOldest 63 = .ok (.getfield 21, 3) := by decide +kernel
theorem dX7_forgetOldest_66 : decode cX7_forgetOldest 66 = .ok (.iconst 0, 1) := by decide +kernel
theorem dX7_forgetOldest_67 : decode cX7_forgetOldest 67 = .ok (.aload_n 0, 1) := by decide +kernel
theorem dX7_forgetOldest_68 : decode cX7_forgetOldest 68 = .ok (.getfield 24, 3) := by decide +kernel
theorem dX7_forgetOldest_71 : decode cX7_forgetOldest 71 = .ok (.invokestatic 31, 3) := by decide +kernel
theorem dX7_forgetOldest_74 : decode cX7_forgetOldest 74 = .ok (.return_, 1) := by decide +kernel
theorem dX7_takeBack_0 : decode cX7_takeBack 0 = .ok (.aload_n 0, 1) := by decide +kernel
theorem dX7_takeBack_1 : decode cX7_takeBack 1 = .ok (.getfield 24, 3) := by decide +kernel
theorem dX7_takeBack_4 : decode cX7_takeBack 4 = .ok (.ifCond .gt 4, 3) := by decide +kernel
theorem dX7_takeBack_7 : decode cX7_takeBack 7 = .ok (.return_, 1) := by decide +kernel
theorem dX7_takeBack_8 : decode cX7_takeBack 8 = .ok (.aload_n 0, 1) := by decide +kernel
theorem dX7_takeBack_9 : decode cX7_takeBack 9 = .ok (.dup, 1) := by decide +kernel
theorem dX7_takeBack_10 : decode cX7_takeBack 10 = .ok (.getfield 24, 3) := by decide +kernel
theorem dX7_takeBack_13 : decode cX7_takeBack 13 = .ok (.iconst 1, 1) := by decide +kernel
theorem dX7_takeBack_14 : decode cX7_takeBack 14 = .ok (.isub, 1) := by decide +kernel
theorem dX7_takeBack_15 : decode cX7_takeBack 15 = .ok (.putfield 24, 3) := by decide +kernel
theorem dX7_takeBack_18 : decode cX7_takeBack 18 = .ok (.aload_n 0, 1) := by decide +kernel
theorem dX7_takeBack_19 : decode cX7_takeBack 19 = .ok (.getfield 15, 3) := by decide +kernel
theorem dX7_takeBack_22 : decode cX7_takeBack 22 = .ok (.aload_n 0, 1) := by decide +kernel
theorem dX7_takeBack_23 : decode cX7_takeBack 23 = .ok (.getfield 24, 3) := by decide +kernel
theorem dX7_takeBack_26 : decode cX7_takeBack 26 = .ok (.iaload, 1) := by decide +kernel
theorem dX7_takeBack_27 : decode cX7_takeBack 27 = .ok (.istore_n 2, 1) := by decide +kernel
theorem dX7_takeBack_28 : decode cX7_takeBack 28 = .ok (.aload_n 0, 1) := by decide +kernel
theorem dX7_takeBack_29 : decode cX7_takeBack 29 = .ok (.getfield 9, 3) := by decide +kernel
theorem dX7_takeBack_32 : decode cX7_takeBack 32 = .ok (.aload_n 0, 1) := by decide +kernel
theorem dX7_takeBack_33 : decode cX7_takeBack 33 = .ok (.getfield 24, 3) := by decide +kernel
theorem dX7_takeBack_36 : decode cX7_takeBack 36 = .ok (.iaload, 1) := by decide +kernel
theorem dX7_takeBack_37 : decode cX7_takeBack 37 = .ok (.lookupswitch 71 #[(0, 27), (1, 45)], 27) := by decide +kernel
theorem dX7_takeBack_64 : decode cX7_takeBack 64 = .ok (.aload_n 1, 1) := by decide +kernel
theorem dX7_takeBack_65 : decode cX7_takeBack 65 = .ok (.getfield 37, 3) := by decide +kernel
theorem dX7_takeBack_68 : decode cX7_takeBack 68 = .ok (.iload_n 2, 1) := by decide +kernel
theorem dX7_takeBack_69 : decode cX7_takeBack 69 = .ok (.aload_n 0, 1) := by decide +kernel
theorem dX7_takeBack_70 : decode cX7_takeBack 70 = .ok (.getfield 21, 3) := by decide +kernel
theorem dX7_takeBack_73 : decode cX7_takeBack 73 = .ok (.aload_n 0, 1) := by decide +kernel
theorem dX7_takeBack_74 : decode cX7_takeBack 74 = .ok (.getfield 24, 3) := by decide +kernel
theorem dX7_takeBack_77 : decode cX7_takeBack 77 = .ok (.iaload, 1) := by decide +kernel
theorem dX7_takeBack_78 : decode cX7_takeBack 78 = .ok (.iastore, 1) := by decide +kernel
theorem dX7_takeBack_79 : decode cX7_takeBack 79 = .ok (.goto 44, 3) := by decide +kernel
theorem dX7_takeBack_82 : decode cX7_takeBack 82 = .ok (.aload_n 1, 1) := by decide +kernel
theorem dX7_takeBack_83 : decode cX7_takeBack 83 = .ok (.iload_n 2, 1) := by decide +kernel
theorem dX7_takeBack_84 : decode cX7_takeBack 84 = .ok (.aload_n 0, 1) := by decide +kernel
theorem dX7_takeBack_85 : decode cX7_takeBack 85 = .ok (.getfield 18, 3) := by decide +kernel
theorem dX7_takeBack_88 : decode cX7_takeBack 88 = .ok (.aload_n 0, 1) := by decide +kernel
theorem dX7_takeBack_89 : decode cX7_takeBack 89 = .ok (.getfield 24, 3) := by decide +kernel
theorem dX7_takeBack_92 : decode cX7_takeBack 92 = .ok (.iaload, 1) := by decide +kernel
theorem dX7_takeBack_93 : decode cX7_takeBack 93 = .ok (.aload_n 0, 1) := by decide +kernel
theorem dX7_takeBack_94 : decode cX7_takeBack 94 = .ok (.getfield 21, 3) := by decide +kernel
theorem dX7_takeBack_97 : decode cX7_takeBack 97 = .ok (.aload_n 0, 1) := by decide +kernel
theorem dX7_takeBack_98 : decode cX7_takeBack 98 = .ok (.getfield 24, 3) := by decide +kernel
theorem dX7_takeBack_101 : decode cX7_takeBack 101 = .ok (.iaload, 1) := by decide +kernel
theorem dX7_takeBack_102 : decode cX7_takeBack 102 = .ok (.invokevirtual 42, 3) := by decide +kernel
theorem dX7_takeBack_105 : decode cX7_takeBack 105 = .ok (.goto 18, 3) := by decide +kernel
theorem dX7_takeBack_108 : decode cX7_takeBack 108 = .ok (.aload_n 1, 1) := by decide +kernel
theorem dX7_takeBack_109 : decode cX7_takeBack 109 = .ok (.getfield 46, 3) := by decide +kernel
theorem dX7_takeBack_112 : decode cX7_takeBack 112 = .ok (.iload_n 2, 1) := by decide +kernel
theorem dX7_takeBack_113 : decode cX7_takeBack 113 = .ok (.aload_n 0, 1) := by decide +kernel
theorem dX7_takeBack_114 : decode cX7_takeBack 114 = .ok (.getfield 21, 3) := by decide +kernel
theorem dX7_takeBack_117 : decode cX7_takeBack 117 = .ok (.aload_n 0, 1) := by decide +kernel
theorem dX7_takeBack_118 : decode cX7_takeBack 118 = .ok (.getfield 24, 3) := by decide +kernel
theorem dX7_takeBack_121 : decode cX7_takeBack 121 = .ok (.iaload, 1) := by decide +kernel
theorem dX7_takeBack_122 : decode cX7_takeBack 122 = .ok (.iastore, 1) := by decide +kernel
theorem dX7_takeBack_123 : decode cX7_takeBack 123 = .ok (.return_, 1) := by decide +kernel
theorem tr_relupd {a b : Nat → Int32} {k : Nat} {x y : Int32} (h : ∀ j : Nat, a j = 0 → -1 ≤ (b j).toInt ∧ (b j).toInt ≤ 2) (hx : x = 0 → -1 ≤ y.toInt ∧ y.toInt ≤ 2) : ∀ j : Nat, upd a k x j = 0 → -1 ≤ (upd b k y j).toInt ∧ (upd b k y j).toInt ≤ 2 := by
  intro j
  unfold upd
  by_cases e : j = k
  · rw [if_pos e, if_pos e]; exact hx
  · rw [if_neg e, if_neg e]; exact h j
theorem tr_relcpy {a b : Nat → Int32} {sp dp n : Nat} (h : ∀ j : Nat, a j = 0 → -1 ≤ (b j).toInt ∧ (b j).toInt ≤ 2) : ∀ j : Nat, va_cpy a a sp dp n j = 0 → -1 ≤ (va_cpy b b sp dp n j).toInt ∧ (va_cpy b b sp dp n j).toInt ≤ 2 := by
  intro j
  unfold va_cpy
  by_cases e : dp ≤ j ∧ j < dp + n
  · rw [if_pos e, if_pos e]; exact h _
  · rw [if_neg e, if_neg e]; exact h j
theorem cpy_sh {f g : Nat → Int32} (e : g = va_cpy f f 1 0 7) : ∀ j : Nat, j < 7 → g j = f (j + 1) := fun j hj => by
  rw [e]; unfold va_cpy
  rw [if_pos (by omega), show 1 + (j - 0) = j + 1 by omega]
theorem pus_a {c c' : Int} {w w' : Nat → Int32} {x : Int32} {i : Nat} (e : w' = upd w i x) (hi : i = c.toNat) (c0 : 0 ≤ c) (h8 : c < 8) (h1 : c' = c + 1) : PUs c c' w w' x := by
  subst hi
  exact ⟨fun _ => ⟨h1, fun j hj => by rw [e, upd_ne _ _ (by omega)], by rw [e, upd_at]⟩, fun h => by omega⟩
theorem pus_b {c c' : Int} {w v w' : Nat → Int32} {x : Int32} {i : Nat} (h : ∀ j : Nat, j < 7 → v j = w (j + 1)) (e : w' = upd v i x) (hi : i = 7) (h8 : 8 ≤ c) (h1 : c' = 8) : PUs c c' w w' x := by
  subst hi
  exact ⟨fun q => by omega, fun _ => ⟨h1, fun j hj => by rw [e, upd_ne _ _ (by omega)]; exact h j hj, by rw [e, upd_at]⟩⟩
set_option maxHeartbeats 4000000 in
set_option maxRecDepth 100000 in
theorem c_X7_forgetOldest (l : Launch) (D : va_G) (g : Nat → ClassId) (sz : Nat) (st : Nat) (st_what : Nat) (st_node : Nat) (st_index : Nat) (st_before : Nat) (stc : Int32) (stw : Nat → Int32) (stn : Nat → Int32) (sti : Nat → Int32) (stb : Nat → Int32) (h_stc : 0 ≤ (stc : Int32).toInt ∧ (stc : Int32).toInt ≤ 8) (h_stw : ∀ j : Nat, 0 ≤ (stw j).toInt ∧ (stw j).toInt ≤ 2) (h_stn : ∀ j : Nat, 0 ≤ (stn j).toInt ∧ (stn j).toInt ≤ 11) (h_sti : ∀ j : Nat, 0 ≤ (sti j).toInt ∧ (sti j).toInt ≤ 2) (hrel : ∀ j : Nat, stw j = 0 → -1 ≤ (stb j).toInt ∧ (stb j).toInt ≤ 2) : Met l yX7_forgetOldest (.code yX7_forgetOldest cX7_forgetOldest 1 none :: wsL_law) ({ frames := 1, cells := 0, slots := 0, locals := 60 }) (va_Pc [.ref st] (fun U => U.heap.size = sz ∧ va_P D vwCl [(wO7 st st_what st_node st_index st_before stc), (wI g st_what 0 8 stw), (wI g st_node 0 8 stn), (wI g st_index 0 8 sti), (wI g st_before 0 8 stb)] U.heap ∧ va_K D vwCl (TY g) U ∧ va_D (fun _ => True) [(wO7 st st_what st_node st_index st_before stc), (wI g st_what 0 8 stw), (wI g st_node 0 8 stn), (wI g st_index 0 8 sti), (wI g st_before 0 8 stb)])) (va_Qv (fun (_ : Unit) => True) (fun _ t => ∃ ostw : Nat → Int32, ∃ ostn : Nat → Int32, ∃ osti : Nat → Int32, ∃ ostb : Nat → Int32, (∀ j : Nat, 0 ≤ (ostw j).toInt ∧ (ostw j).toInt ≤ 2) ∧ (∀ j : Nat, 0 ≤ (ostn j).toInt ∧ (ostn j).toInt ≤ 11) ∧ (∀ j : Nat, 0 ≤ (osti j).toInt ∧ (osti j).toInt ≤ 2) ∧ (∀ j : Nat, ostw j = 0 → -1 ≤ (ostb j).toInt ∧ (ostb j).toInt ≤ 2) ∧ (∀ j : Nat, j < 7 → ostw j = stw (j + 1)) ∧ (∀ j : Nat, j < 7 → ostn j = stn (j + 1)) ∧ (∀ j : Nat, j < 7 → osti j = sti (j + 1)) ∧ (∀ j : Nat, j < 7 → ostb j = stb (j + 1)) ∧ va_P D vwCl [(wO7 st st_what st_node st_index st_before 7), (wI g st_what 0 8 ostw), (wI g st_node 0 8 ostn), (wI g st_index 0 8 osti), (wI g st_before 0 8 ostb)] t.heap ∧ va_D (va_A [(wO7 st st_what st_node st_index st_before stc), (wI g st_what 0 8 stw), (wI g st_node 0 8 stn), (wI g st_index 0 8 sti), (wI g st_before 0 8 stb)] sz) [(wO7 st st_what st_node st_index st_before 7), (wI g st_what 0 8 ostw), (wI g st_node 0 8 ostn), (wI g st_index 0 8 osti), (wI g st_before 0 8 ostb)]) (va_A [(wO7 st st_what st_node st_index st_before stc), (wI g st_what 0 8 stw), (wI g st_node 0 8 stn), (wI g st_index 0 8 sti), (wI g st_before 0 8 stb)] sz)) 0 0 (va_A [(wO7 st st_what st_node st_index st_before stc), (wI g st_what 0 8 stw), (wI g st_node 0 8 stn), (wI g st_index 0 8 sti), (wI g st_before 0 8 stb)] sz) := by
  refine Met.ofW (cc := cX7_forgetOldest) (maxL := 1) (ret := none) (by decide) rfl ?_
  intro p e s m args below meth c s₁ B hml hv
  obtain ⟨ha, hsz, hP, hK, hD0⟩ := hv
  have hx := B.exec
  have hb := B.bytes
  have hr := B.returns
  have hts0 := atoms_spec (ws := (.code yX7_forgetOldest cX7_forgetOldest 1 none :: wsL_law)) B.pre
  have hts : ∀ w ∈ wsL_law, w.before args s = true := fun w h => hts0 w (List.mem_cons_of_mem _ h)
  have hown : s.vm.findClass RX7 = some m.cls := findClass_of_methodNamed B.named
  have hlocks := B.notSynchronized
  subst hsz
  have hD := hD0.self (sz := s.heap.size)
  generalize hAe : va_A [(wO7 st st_what st_node st_index st_before stc), (wI g st_what 0 8 stw), (wI g st_node 0 8 stn), (wI g st_index 0 8 sti), (wI g st_before 0 8 stb)] s.heap.size = A at hD ⊢
  have hA : ∀ q : Nat, s.heap.size ≤ q → A q := fun q h => by rw [← hAe]; exact Or.inr h
  have hS : va_S A s.heap s.heap [] := va_S.rf
  have hP : va_P D vwCl [(wO7 st st_what st_node st_index st_before stc), (wI g st_what 0 8 stw), (wI g st_node 0 8 stn), (wI g st_index 0 8 sti), (wI g st_before 0 8 stb)] s.heap := hP
  refine W.eq (g2 := entryFrame m ([.ref st] : List Value).toArray 1) (by rw [ha]) ?_
  have hl := lv_entry ([.ref st]) (n := 1) (Nat.le_of_ble_eq_true rfl)
  rw [lg_entry_eq]
  generalize (lg_sl ([.ref st]) ++ List.replicate (1 - (lg_sl ([.ref st])).length) Slot.unset).toArray = ls at hl ⊢
  have hl : lv_has ls 1 [(0, .ref st)] := hl
  refine lv_aload_n hx hb dX7_forgetOldest_0 rfl (lv_at hl 0 rfl) ?_
  refine lv_bipush (v := 7) hx hb dX7_forgetOldest_1 (by decide) ?_
  refine va_put (D := D) (ci := 7) (v := .int 7) (ty := .int) (C := RX7) (T := TX7) (N := 5) hx hb hts inlX7 tyX7 tyX7_ok nmX7 hown hK hP hD hS 0 rfl rfl 4 (by decide) (hts (Cond.fieldLink RX7 24 "ChanceRings$Steps" "count" "I") qw_619) (fun _ h9 => h9) rfl (by decide +kernel) rfl rfl (Nat.le_of_ble_eq_true rfl) dX7_forgetOldest_3 (fun H locs hP hD hS => ?_)
  have hP : va_P D vwCl [(wO7 st st_what st_node st_index st_before 7), (wI g st_what 0 8 stw), (wI g st_node 0 8 stn), (wI g st_index 0 8 sti), (wI g st_before 0 8 stb)] H := hP
  have hD : va_D A [(wO7 st st_what st_node st_index st_before 7), (wI g st_what 0 8 stw), (wI g st_node 0 8 stn), (wI g st_index 0 8 sti), (wI g st_before 0 8 stb)] := hD
  refine lv_aload_n hx hb dX7_forgetOldest_6 rfl (lv_at hl 0 rfl) ?_
  refine va_get (D := D) (ci := 7) (v := .ref st_what) (C := RX7) (T := TX7) (N := 5) hx hb hts inlX7 hown hK hP 0 rfl rfl 0 (by decide) (hts (Cond.fieldLink RX7 9 "ChanceRings$Steps" "what" "[I") qw_620) (fun _ h9 => h9) rfl dX7_forgetOldest_7 ?_
  refine lv_iconst (v := 1) hx hb dX7_forgetOldest_10 (by decide) ?_
  refine lv_aload_n hx hb dX7_forgetOldest_11 rfl (lv_at hl 0 rfl) ?_
  refine va_get (D := D) (ci := 7) (v := .ref st_what) (C := RX7) (T := TX7) (N := 5) hx hb hts inlX7 hown hK hP 0 rfl rfl 0 (by decide) (hts (Cond.fieldLink RX7 9 "ChanceRings$Steps" "what" "[I") qw_620) (fun _ h9 => h9) rfl dX7_forgetOldest_12 ?_
  refine lv_iconst (v := 0) hx hb dX7_forgetOldest_15 (by decide) ?_
  refine lv_aload_n hx hb dX7_forgetOldest_16 rfl (lv_at hl 0 rfl) ?_
  refine va_get (D := D) (ci := 7) (v := .int 7) (C := RX7) (T := TX7) (N := 5) hx hb hts inlX7 hown hK hP 0 rfl rfl 4 (by decide) (hts (Cond.fieldLink RX7 24 "ChanceRings$Steps" "count" "I") qw_619) (fun _ h9 => h9) rfl dX7_forgetOldest_17 ?_
  refine va_copyi (ty := .int) hx hb (by rw [hml]; exact hl.1.symm) hown (hts (Cond.methodLink RX7 31 arraycopyName) qw_621) (hts (Cond.native arraycopyName) qw_343) (hts (Cond.static arraycopyName) qw_344) (hts (Cond.initialized "java/lang/System") qw_345) hK hP hD hS 1 1 0 0 rfl rfl rfl rfl rfl (by decide) (by decide) (by decide) (by decide +kernel) (by decide +kernel) (fun _ _ => rfl) (Nat.le_of_ble_eq_true rfl) (Nat.le_of_ble_eq_true rfl) dX7_forgetOldest_20 (fun H locs hP hD hS => ?_)
  obtain ⟨f_95530, f_95530_e, h_f_95530, hP, hD⟩ : ∃ FX : Nat → Int32, FX = va_cpy stw stw 1 0 7 ∧ (∀ j : Nat, 0 ≤ (FX j).toInt ∧ (FX j).toInt ≤ 2) ∧ va_P D vwCl [(wO7 st st_what st_node st_index st_before 7), (wI g st_what 0 8 FX), (wI g st_node 0 8 stn), (wI g st_index 0 8 sti), (wI g st_before 0 8 stb)] H ∧ va_D A [(wO7 st st_what st_node st_index st_before 7), (wI g st_what 0 8 FX), (wI g st_node 0 8 stn), (wI g st_index 0 8 sti), (wI g st_before 0 8 stb)] := ⟨_, rfl, tr_cpy (tr_wa h_stw (by decide) (by decide)) h_stw, hP, hD⟩
  have hP : va_P D vwCl [(wO7 st st_what st_node st_index st_before 7), (wI g st_what 0 8 f_95530), (wI g st_node 0 8 stn), (wI g st_index 0 8 sti), (wI g st_before 0 8 stb)] H := hP
  have hD : va_D A [(wO7 st st_what st_node st_index st_before 7), (wI g st_what 0 8 f_95530), (wI g st_node 0 8 stn), (wI g st_index 0 8 sti), (wI g st_before 0 8 stb)] := hD
  refine lv_aload_n hx hb dX7_forgetOldest_23 rfl (lv_at hl 0 rfl) ?_
  refine va_get (D := D) (ci := 7) (v := .ref st_node) (C := RX7) (T := TX7) (N := 5) hx hb hts inlX7 hown hK hP 0 rfl rfl 1 (by decide) (hts (Cond.fieldLink RX7 15 "ChanceRings$Steps" "node" "[I") qw_622) (fun _ h9 => h9) rfl dX7_forgetOldest_24 ?_
  refine lv_iconst (v := 1) hx hb dX7_forgetOldest_27 (by decide) ?_
  refine lv_aload_n hx hb dX7_forgetOldest_28 rfl (lv_at hl 0 rfl) ?_
  refine va_get (D := D) (ci := 7) (v := .ref st_node) (C := RX7) (T := TX7) (N := 5) hx hb hts inlX7 hown hK hP 0 rfl rfl 1 (by decide) (hts (Cond.fieldLink RX7 15 "ChanceRings$Steps" "node" "[I") qw_622) (fun _ h9 => h9) rfl dX7_forgetOldest_29 ?_
  refine lv_iconst (v := 0) hx hb dX7_forgetOldest_32 (by decide) ?_
  refine lv_aload_n hx hb dX7_forgetOldest_33 rfl (lv_at hl 0 rfl) ?_
  refine va_get (D := D) (ci := 7) (v := .int 7) (C := RX7) (T := TX7) (N := 5) hx hb hts inlX7 hown hK hP 0 rfl rfl 4 (by decide) (hts (Cond.fieldLink RX7 24 "ChanceRings$Steps" "count" "I") qw_619) (fun _ h9 => h9) rfl dX7_forgetOldest_34 ?_
  refine va_copyi (ty := .int) hx hb (by rw [hml]; exact hl.1.symm) hown (hts (Cond.methodLink RX7 31 arraycopyName) qw_621) (hts (Cond.native arraycopyName) qw_343) (hts (Cond.static arraycopyName) qw_344) (hts (Cond.initialized "java/lang/System") qw_345) hK hP hD hS 2 2 0 0 rfl rfl rfl rfl rfl (by decide) (by decide) (by decide) (by decide +kernel) (by decide +kernel) (fun _ _ => rfl) (Nat.le_of_ble_eq_true rfl) (Nat.le_of_ble_eq_true rfl) dX7_forgetOldest_37 (fun H locs hP hD hS => ?_)
  obtain ⟨f_95531, f_95531_e, h_f_95531, hP, hD⟩ : ∃ FX : Nat → Int32, FX = va_cpy stn stn 1 0 7 ∧ (∀ j : Nat, 0 ≤ (FX j).toInt ∧ (FX j).toInt ≤ 11) ∧ va_P D vwCl [(wO7 st st_what st_node st_index st_before 7), (wI g st_what 0 8 f_95530), (wI g st_node 0 8 FX), (wI g st_index 0 8 sti), (wI g st_before 0 8 stb)] H ∧ va_D A [(wO7 st st_what st_node st_index st_before 7), (wI g st_what 0 8 f_95530), (wI g st_node 0 8 FX), (wI g st_index 0 8 sti), (wI g st_before 0 8 stb)] := ⟨_, rfl, tr_cpy (tr_wa h_stn (by decide) (by decide)) h_stn, hP, hD⟩
  have hP : va_P D vwCl [(wO7 st st_what st_node st_index st_before 7), (wI g st_what 0 8 f_95530), (wI g st_node 0 8 f_95531), (wI g st_index 0 8 sti), (wI g st_before 0 8 stb)] H := hP
  have hD : va_D A [(wO7 st st_what st_node st_index st_before 7), (wI g st_what 0 8 f_95530), (wI g st_node 0 8 f_95531), (wI g st_index 0 8 sti), (wI g st_before 0 8 stb)] := hD
  refine lv_aload_n hx hb dX7_forgetOldest_40 rfl (lv_at hl 0 rfl) ?_
  refine va_get (D := D) (ci := 7) (v := .ref st_index) (C := RX7) (T := TX7) (N := 5) hx hb hts inlX7 hown hK hP 0 rfl rfl 2 (by decide) (hts (Cond.fieldLink RX7 18 "ChanceRings$Steps" "index" "[I") qw_623) (fun _ h9 => h9) rfl dX7_forgetOldest_41 ?_
  refine lv_iconst (v := 1) hx hb dX7_forgetOldest_44 (by decide) ?_
  refine lv_aload_n hx hb dX7_forgetOldest_45 rfl (lv_at hl 0 rfl) ?_
  refine va_get (D := D) (ci := 7) (v := .ref st_index) (C := RX7) (T := TX7) (N := 5) hx hb hts inlX7 hown hK hP 0 rfl rfl 2 (by decide) (hts (Cond.fieldLink RX7 18 "ChanceRings$Steps" "index" "[I") qw_623) (fun _ h9 => h9) rfl dX7_forgetOldest_46 ?_
  refine lv_iconst (v := 0) hx hb dX7_forgetOldest_49 (by decide) ?_
  refine lv_aload_n hx hb dX7_forgetOldest_50 rfl (lv_at hl 0 rfl) ?_
  refine va_get (D := D) (ci := 7) (v := .int 7) (C := RX7) (T := TX7) (N := 5) hx hb hts inlX7 hown hK hP 0 rfl rfl 4 (by decide) (hts (Cond.fieldLink RX7 24 "ChanceRings$Steps" "count" "I") qw_619) (fun _ h9 => h9) rfl dX7_forgetOldest_51 ?_
  refine va_copyi (ty := .int) hx hb (by rw [hml]; exact hl.1.symm) hown (hts (Cond.methodLink RX7 31 arraycopyName) qw_621) (hts (Cond.native arraycopyName) qw_343) (hts (Cond.static arraycopyName) qw_344) (hts (Cond.initialized "java/lang/System") qw_345) hK hP hD hS 3 3 0 0 rfl rfl rfl rfl rfl (by decide) (by decide) (by decide) (by decide +kernel) (by decide +kernel) (fun _ _ => rfl) (Nat.le_of_ble_eq_true rfl) (Nat.le_of_ble_eq_true rfl) dX7_forgetOldest_54 (fun H locs hP hD hS => ?_)
  obtain ⟨f_95532, f_95532_e, h_f_95532, hP, hD⟩ : ∃ FX : Nat → Int32, FX = va_cpy sti sti 1 0 7 ∧ (∀ j : Nat, 0 ≤ (FX j).toInt ∧ (FX j).toInt ≤ 2) ∧ va_P D vwCl [(wO7 st st_what st_node st_index st_before 7), (wI g st_what 0 8 f_95530), (wI g st_node 0 8 f_95531), (wI g st_index 0 8 FX), (wI g st_before 0 8 stb)] H ∧ va_D A [(wO7 st st_what st_node st_index st_before 7), (wI g st_what 0 8 f_95530), (wI g st_node 0 8 f_95531), (wI g st_index 0 8 FX), (wI g st_before 0 8 stb)] := ⟨_, rfl, tr_cpy (tr_wa h_sti (by decide) (by decide)) h_sti, hP, hD⟩
  have hP : va_P D vwCl [(wO7 st st_what st_node st_index st_before 7), (wI g st_what 0 8 f_95530), (wI g st_node 0 8 f_95531), (wI g st_index 0 8 f_95532), (wI g st_before 0 8 stb)] H := hP
  have hD : va_D A [(wO7 st st_what st_node st_index st_before 7), (wI g st_what 0 8 f_95530), (wI g st_node 0 8 f_95531), (wI g st_index 0 8 f_95532), (wI g st_before 0 8 stb)] := hD
  refine lv_aload_n hx hb dX7_forgetOldest_57 rfl (lv_at hl 0 rfl) ?_
  refine va_get (D := D) (ci := 7) (v := .ref st_before) (C := RX7) (T := TX7) (N := 5) hx hb hts inlX7 hown hK hP 0 rfl rfl 3 (by decide) (hts (Cond.fieldLink RX7 21 "ChanceRings$Steps" "before" "[I") qw_624) (fun _ h9 => h9) rfl dX7_forgetOldest_58 ?_
  refine lv_iconst (v := 1) hx hb dX7_forgetOldest_61 (by decide) ?_
  refine lv_aload_n hx hb dX7_forgetOldest_62 rfl (lv_at hl 0 rfl) ?_
  refine va_get (D := D) (ci := 7) (v := .ref st_before) (C := RX7) (T := TX7) (N := 5) hx hb hts inlX7 hown hK hP 0 rfl rfl 3 (by decide) (hts (Cond.fieldLink RX7 21 "ChanceRings$Steps" "before" "[I") qw_624) (fun _ h9 => h9) rfl dX7_forgetOldest_63 ?_
  refine lv_iconst (v := 0) hx hb dX7_forgetOldest_66 (by decide) ?_
  refine lv_aload_n hx hb dX7_forgetOldest_67 rfl (lv_at hl 0 rfl) ?_
  refine va_get (D := D) (ci := 7) (v := .int 7) (C := RX7) (T := TX7) (N := 5) hx hb hts inlX7 hown hK hP 0 rfl rfl 4 (by decide) (hts (Cond.fieldLink RX7 24 "ChanceRings$Steps" "count" "I") qw_619) (fun _ h9 => h9) rfl dX7_forgetOldest_68 ?_
  refine va_copyi (ty := .int) hx hb (by rw [hml]; exact hl.1.symm) hown (hts (Cond.methodLink RX7 31 arraycopyName) qw_621) (hts (Cond.native arraycopyName) qw_343) (hts (Cond.static arraycopyName) qw_344) (hts (Cond.initialized "java/lang/System") qw_345) hK hP hD hS 4 4 0 0 rfl rfl rfl rfl rfl (by decide) (by decide) (by decide) (by decide +kernel) (by decide +kernel) (fun _ _ => rfl) (Nat.le_of_ble_eq_true rfl) (Nat.le_of_ble_eq_true rfl) dX7_forgetOldest_71 (fun H locs hP hD hS => ?_)
  obtain ⟨f_95533, f_95533_e, hP, hD⟩ : ∃ FX : Nat → Int32, FX = va_cpy stb stb 1 0 7 ∧ va_P D vwCl [(wO7 st st_what st_node st_index st_before 7), (wI g st_what 0 8 f_95530), (wI g st_node 0 8 f_95531), (wI g st_index 0 8 f_95532), (wI g st_before 0 8 FX)] H ∧ va_D A [(wO7 st st_what st_node st_index st_before 7), (wI g st_what 0 8 f_95530), (wI g st_node 0 8 f_95531), (wI g st_index 0 8 f_95532), (wI g st_before 0 8 FX)] := ⟨_, rfl, hP, hD⟩
  have hP : va_P D vwCl [(wO7 st st_what st_node st_index st_before 7), (wI g st_what 0 8 f_95530), (wI g st_node 0 8 f_95531), (wI g st_index 0 8 f_95532), (wI g st_before 0 8 f_95533)] H := hP
  have hD : va_D A [(wO7 st st_what st_node st_index st_before 7), (wI g st_what 0 8 f_95530), (wI g st_node 0 8 f_95531), (wI g st_index 0 8 f_95532), (wI g st_before 0 8 f_95533)] := hD
  have hP9 := hP.sub (ws' := [(wO7 st st_what st_node st_index st_before 7), (wI g st_what 0 8 f_95530), (wI g st_node 0 8 f_95531), (wI g st_index 0 8 f_95532), (wI g st_before 0 8 f_95533)]) [0, 1, 2, 3, 4] rfl
  have hD9 := hD.sub (ws' := [(wO7 st st_what st_node st_index st_before 7), (wI g st_what 0 8 f_95530), (wI g st_node 0 8 f_95531), (wI g st_index 0 8 f_95532), (wI g st_before 0 8 f_95533)]) [0, 1, 2, 3, 4] (by decide) rfl
  exact W.vret hx hb hr (fun t ht hW => ⟨⟨(), rfl, trivial, f_95530, f_95531, f_95532, f_95533, (tr_wa h_f_95530 (by decide) (by decide)), (tr_wa h_f_95531 (by decide) (by decide)), (tr_wa h_f_95532 (by decide) (by decide)), (by rw [f_95530_e, f_95533_e]; exact tr_relcpy hrel), (cpy_sh f_95530_e), (cpy_sh f_95531_e), (cpy_sh f_95532_e), (cpy_sh f_95533_e), by rw [ht]; exact hP9, hD9⟩, hS.F ht⟩) hS.2.2 dX7_forgetOldest_74
set_option maxHeartbeats 4000000 in
set_option maxRecDepth 100000 in
theorem c_X7_add0 (l : Launch) (D : va_G) (g : Nat → ClassId) (sz : Nat) (st : Nat) (p1 : Int32) (p2 : Int32) (p3 : Int32) (st_what : Nat) (st_node : Nat) (st_index : Nat) (st_before : Nat) (stc : Int32) (stw : Nat → Int32) (stn : Nat → Int32) (sti : Nat → Int32) (stb : Nat → Int32) (h_p1 : 0 ≤ (p1 : Int32).toInt ∧ (p1 : Int32).toInt ≤ 11) (h_p2 : 0 ≤ (p2 : Int32).toInt ∧ (p2 : Int32).toInt ≤ 2) (h_p3 : (-1) ≤ (p3 : Int32).toInt ∧ (p3 : Int32).toInt ≤ 2) (h_stc : 0 ≤ (stc : Int32).toInt ∧ (stc : Int32).toInt ≤ 8) (h_stw : ∀ j : Nat, 0 ≤ (stw j).toInt ∧ (stw j).toInt ≤ 2) (h_stn : ∀ j : Nat, 0 ≤ (stn j).toInt ∧ (stn j).toInt ≤ 11) (h_sti : ∀ j : Nat, 0 ≤ (sti j).toInt ∧ (sti j).toInt ≤ 2) (hrel : ∀ j : Nat, stw j = 0 → -1 ≤ (stb j).toInt ∧ (stb j).toInt ≤ 2) : Met l yX7_add (.code yX7_add cX7_add 5 none :: wsL_law) ({ frames := 2, cells := 0, slots := 0, locals := 80 }) (va_Pc [.ref st, .int 0, .int p1, .int p2, .int p3] (fun U => U.heap.size = sz ∧ va_P D vwCl [(wO7 st st_what st_node st_index st_before stc), (wI g st_what 0 8 stw), (wI g st_node 0 8 stn), (wI g st_index 0 8 sti), (wI g st_before 0 8 stb)] U.heap ∧ va_K D vwCl (TY g) U ∧ va_D (fun _ => True) [(wO7 st st_what st_node st_index st_before stc), (wI g st_what 0 8 stw), (wI g st_node 0 8 stn), (wI g st_index 0 8 sti), (wI g st_before 0 8 stb)])) (va_Qv (fun (_ : Unit) => True) (fun _ t => ∃ ostc : Int32, ∃ ostw : Nat → Int32, ∃ ostn : Nat → Int32, ∃ osti : Nat → Int32, ∃ ostb : Nat → Int32, (0 ≤ (ostc : Int32).toInt ∧ (ostc : Int32).toInt ≤ 8) ∧ (∀ j : Nat, 0 ≤ (ostw j).toInt ∧ (ostw j).toInt ≤ 2) ∧ (∀ j : Nat, 0 ≤ (ostn j).toInt ∧ (ostn j).toInt ≤ 11) ∧ (∀ j : Nat, 0 ≤ (osti j).toInt ∧ (osti j).toInt ≤ 2) ∧ (∀ j : Nat, ostw j = 0 → -1 ≤ (ostb j).toInt ∧ (ostb j).toInt ≤ 2) ∧ (PUs (stc : Int32).toInt (ostc : Int32).toInt stw ostw (0 : Int32)) ∧ (PUs (stc : Int32).toInt (ostc : Int32).toInt stn ostn p1) ∧ (PUs (stc : Int32).toInt (ostc : Int32).toInt sti osti p2) ∧ (PUs (stc : Int32).toInt (ostc : Int32).toInt stb ostb p3) ∧ va_P D vwCl [(wO7 st st_what st_node st_index st_before ostc), (wI g st_what 0 8 ostw), (wI g st_node 0 8 ostn), (wI g st_index 0 8 osti), (wI g st_before 0 8 ostb)] t.heap ∧ va_D (va_A [(wO7 st st_what st_node st_index st_before stc), (wI g st_what 0 8 stw), (wI g st_node 0 8 stn), (wI g st_index 0 8 sti), (wI g st_before 0 8 stb)] sz) [(wO7 st st_what st_node st_index st_before ostc), (wI g st_what 0 8 ostw), (wI g st_node 0 8 ostn), (wI g st_index 0 8 osti), (wI g st_before 0 8 ostb)]) (va_A [(wO7 st st_what st_node st_index st_before stc), (wI g st_what 0 8 stw), (wI g st_node 0 8 stn), (wI g st_index 0 8 sti), (wI g st_before 0 8 stb)] sz)) 0 0 (va_A [(wO7 st st_what st_node st_index st_before stc), (wI g st_what 0 8 stw), (wI g st_node 0 8 stn), (wI g st_index 0 8 sti), (wI g st_before 0 8 stb)] sz) := by
  refine Met.ofW (cc := cX7_add) (maxL := 5) (ret := none) (by decide) rfl ?_
  intro p e s m args below meth c s₁ B hml hv
  obtain ⟨ha, hsz, hP, hK, hD0⟩ := hv
  have hx := B.exec
  have hb := B.bytes
  have hr := B.returns
  have hts0 := atoms_spec (ws := (.code yX7_add cX7_add 5 none :: wsL_law)) B.pre
  have hts : ∀ w ∈ wsL_law, w.before args s = true := fun w h => hts0 w (List.mem_cons_of_mem _ h)
  have hown : s.vm.findClass RX7 = some m.cls := findClass_of_methodNamed B.named
  have hlocks := B.notSynchronized
  subst hsz
  have hD := hD0.self (sz := s.heap.size)
  generalize hAe : va_A [(wO7 st st_what st_node st_index st_before stc), (wI g st_what 0 8 stw), (wI g st_node 0 8 stn), (wI g st_index 0 8 sti), (wI g st_before 0 8 stb)] s.heap.size = A at hD ⊢
  have hA : ∀ q : Nat, s.heap.size ≤ q → A q := fun q h => by rw [← hAe]; exact Or.inr h
  have hS : va_S A s.heap s.heap [] := va_S.rf
  have hP : va_P D vwCl [(wO7 st st_what st_node st_index st_before stc), (wI g st_what 0 8 stw), (wI g st_node 0 8 stn), (wI g st_index 0 8 sti), (wI g st_before 0 8 stb)] s.heap := hP
  refine W.eq (g2 := entryFrame m ([.ref st, .int 0, .int p1, .int p2, .int p3] : List Value).toArray 5) (by rw [ha]) ?_
  have hl := lv_entry ([.ref st, .int 0, .int p1, .int p2, .int p3]) (n := 5) (Nat.le_of_ble_eq_true rfl)
  rw [lg_entry_eq]
  generalize (lg_sl ([.ref st, .int 0, .int p1, .int p2, .int p3]) ++ List.replicate (5 - (lg_sl ([.ref st, .int 0, .int p1, .int p2, .int p3])).length) Slot.unset).toArray = ls at hl ⊢
  have hl : lv_has ls 5 [(0, .ref st), (1, .int 0), (2, .int p1), (3, .int p2), (4, .int p3)] := hl
  refine lv_aload_n hx hb dX7_add_0 rfl (lv_at hl 0 rfl) ?_
  refine va_get (D := D) (ci := 7) (v := .int stc) (C := RX7) (T := TX7) (N := 5) hx hb hts inlX7 hown hK hP 0 rfl rfl 4 (by decide) (hts (Cond.fieldLink RX7 24 "ChanceRings$Steps" "count" "I") qw_619) (fun _ h9 => h9) rfl dX7_add_1 ?_
  refine lv_bipush (v := 8) hx hb dX7_add_4 (by decide) ?_
  refine lv_icmp_lt (tgt := 13) hx hb dX7_add_6 (by decide) (fun c_95534 => ?_) (fun c_95534 => ?_)
  · skip
    have kk_8 := tk_8
    have c_95534_i := Int32.lt_iff_toInt_lt.mp c_95534
    have h_95535 : 0 ≤ (stc : Int32).toInt ∧ (stc : Int32).toInt ≤ 7 := nr_lt_l h_stc (⟨by decide, by decide⟩ : 8 ≤ (8 : Int32).toInt ∧ (8 : Int32).toInt ≤ 8) c_95534_i (by decide) (by decide)
    refine lv_aload_n hx hb dX7_add_13 rfl (lv_at hl 0 rfl) ?_
    refine va_get (D := D) (ci := 7) (v := .ref st_what) (C := RX7) (T := TX7) (N := 5) hx hb hts inlX7 hown hK hP 0 rfl rfl 0 (by decide) (hts (Cond.fieldLink RX7 9 "ChanceRings$Steps" "what" "[I") qw_620) (fun _ h9 => h9) rfl dX7_add_14 ?_
    refine lv_aload_n hx hb dX7_add_17 rfl (lv_at hl 0 rfl) ?_
    refine va_get (D := D) (ci := 7) (v := .int stc) (C := RX7) (T := TX7) (N := 5) hx hb hts inlX7 hown hK hP 0 rfl rfl 4 (by decide) (hts (Cond.fieldLink RX7 24 "ChanceRings$Steps" "count" "I") qw_619) (fun _ h9 => h9) rfl dX7_add_18 ?_
    refine lv_iload_n hx hb dX7_add_21 rfl (lv_at hl 1 rfl) ?_
    refine va_iast hx hb hK hP hD hS 1 0 rfl rfl (tr_in h_95535 (by decide) (by decide)) dX7_add_22 (fun H locs hP hD hS => ?_)
    obtain ⟨f_95537, f_95537_e, h_f_95537, hP, hD⟩ : ∃ FX : Nat → Int32, FX = (upd stw (stc : Int32).toNatClampNeg 0) ∧ (∀ j : Nat, 0 ≤ (FX j).toInt ∧ (FX j).toInt ≤ 2) ∧ va_P D vwCl [(wO7 st st_what st_node st_index st_before stc), (wI g st_what 0 8 FX), (wI g st_node 0 8 stn), (wI g st_index 0 8 sti), (wI g st_before 0 8 stb)] H ∧ va_D A [(wO7 st st_what st_node st_index st_before stc), (wI g st_what 0 8 FX), (wI g st_node 0 8 stn), (wI g st_index 0 8 sti), (wI g st_before 0 8 stb)] := ⟨_, rfl, tr_upd h_stw (⟨by decide, by decide⟩ : 0 ≤ (0 : Int32).toInt ∧ (0 : Int32).toInt ≤ 2), hP, hD⟩
    have hP : va_P D vwCl [(wO7 st st_what st_node st_index st_before stc), (wI g st_what 0 8 f_95537), (wI g st_node 0 8 stn), (wI g st_index 0 8 sti), (wI g st_before 0 8 stb)] H := hP
    have hD : va_D A [(wO7 st st_what st_node st_index st_before stc), (wI g st_what 0 8 f_95537), (wI g st_node 0 8 stn), (wI g st_index 0 8 sti), (wI g st_before 0 8 stb)] := hD
    refine lv_aload_n hx hb dX7_add_23 rfl (lv_at hl 0 rfl) ?_
    refine va_get (D := D) (ci := 7) (v := .ref st_node) (C := RX7) (T := TX7) (N := 5) hx hb hts inlX7 hown hK hP 0 rfl rfl 1 (by decide) (hts (Cond.fieldLink RX7 15 "ChanceRings$Steps" "node" "[I") qw_622) (fun _ h9 => h9) rfl dX7_add_24 ?_
    refine lv_aload_n hx hb dX7_add_27 rfl (lv_at hl 0 rfl) ?_
    refine va_get (D := D) (ci := 7) (v := .int stc) (C := RX7) (T := TX7) (N := 5) hx hb hts inlX7 hown hK hP 0 rfl rfl 4 (by decide) (hts (Cond.fieldLink RX7 24 "ChanceRings$Steps" "count" "I") qw_619) (fun _ h9 => h9) rfl dX7_add_28 ?_
    refine lv_iload_n hx hb dX7_add_31 rfl (lv_at hl 2 rfl) ?_
    refine va_iast hx hb hK hP hD hS 2 0 rfl rfl (tr_in h_95535 (by decide) (by decide)) dX7_add_32 (fun H locs hP hD hS => ?_)
    obtain ⟨f_95538, f_95538_e, h_f_95538, hP, hD⟩ : ∃ FX : Nat → Int32, FX = (upd stn (stc : Int32).toNatClampNeg p1) ∧ (∀ j : Nat, 0 ≤ (FX j).toInt ∧ (FX j).toInt ≤ 11) ∧ va_P D vwCl [(wO7 st st_what st_node st_index st_before stc), (wI g st_what 0 8 f_95537), (wI g st_node 0 8 FX), (wI g st_index 0 8 sti), (wI g st_before 0 8 stb)] H ∧ va_D A [(wO7 st st_what st_node st_index st_before stc), (wI g st_what 0 8 f_95537), (wI g st_node 0 8 FX), (wI g st_index 0 8 sti), (wI g st_before 0 8 stb)] := ⟨_, rfl, tr_upd h_stn (tr_w h_p1 (by decide) (by decide)), hP, hD⟩
    have hP : va_P D vwCl [(wO7 st st_what st_node st_index st_before stc), (wI g st_what 0 8 f_95537), (wI g st_node 0 8 f_95538), (wI g st_index 0 8 sti), (wI g st_before 0 8 stb)] H := hP
    have hD : va_D A [(wO7 st st_what st_node st_index st_before stc), (wI g st_what 0 8 f_95537), (wI g st_node 0 8 f_95538), (wI g st_index 0 8 sti), (wI g st_before 0 8 stb)] := hD
    refine lv_aload_n hx hb dX7_add_33 rfl (lv_at hl 0 rfl) ?_
    refine va_get (D := D) (ci := 7) (v := .ref st_index) (C := RX7) (T := TX7) (N := 5) hx hb hts inlX7 hown hK hP 0 rfl rfl 2 (by decide) (hts (Cond.fieldLink RX7 18 "ChanceRings$Steps" "index" "[I") qw_623) (fun _ h9 => h9) rfl dX7_add_34 ?_
    refine lv_aload_n hx hb dX7_add_37 rfl (lv_at hl 0 rfl) ?_
    refine va_get (D := D) (ci := 7) (v := .int stc) (C := RX7) (T := TX7) (N := 5) hx hb hts inlX7 hown hK hP 0 rfl rfl 4 (by decide) (hts (Cond.fieldLink RX7 24 "ChanceRings$Steps" "count" "I") qw_619) (fun _ h9 => h9) rfl dX7_add_38 ?_
    refine lv_iload_n hx hb dX7_add_41 rfl (lv_at hl 3 rfl) ?_
    refine va_iast hx hb hK hP hD hS 3 0 rfl rfl (tr_in h_95535 (by decide) (by decide)) dX7_add_42 (fun H locs hP hD hS => ?_)
    obtain ⟨f_95539, f_95539_e, h_f_95539, hP, hD⟩ : ∃ FX : Nat → Int32, FX = (upd sti (stc : Int32).toNatClampNeg p2) ∧ (∀ j : Nat, 0 ≤ (FX j).toInt ∧ (FX j).toInt ≤ 2) ∧ va_P D vwCl [(wO7 st st_what st_node st_index st_before stc), (wI g st_what 0 8 f_95537), (wI g st_node 0 8 f_95538), (wI g st_index 0 8 FX), (wI g st_before 0 8 stb)] H ∧ va_D A [(wO7 st st_what st_node st_index st_before stc), (wI g st_what 0 8 f_95537), (wI g st_node 0 8 f_95538), (wI g st_index 0 8 FX), (wI g st_before 0 8 stb)] := ⟨_, rfl, tr_upd h_sti (tr_w h_p2 (by decide) (by decide)), hP, hD⟩
    have hP : va_P D vwCl [(wO7 st st_what st_node st_index st_before stc), (wI g st_what 0 8 f_95537), (wI g st_node 0 8 f_95538), (wI g st_index 0 8 f_95539), (wI g st_before 0 8 stb)] H := hP
    have hD : va_D A [(wO7 st st_what st_node st_index st_before stc), (wI g st_what 0 8 f_95537), (wI g st_node 0 8 f_95538), (wI g st_index 0 8 f_95539), (wI g st_before 0 8 stb)] := hD
    refine lv_aload_n hx hb dX7_add_43 rfl (lv_at hl 0 rfl) ?_
    refine va_get (D := D) (ci := 7) (v := .ref st_before) (C := RX7) (T := TX7) (N := 5) hx hb hts inlX7 hown hK hP 0 rfl rfl 3 (by decide) (hts (Cond.fieldLink RX7 21 "ChanceRings$Steps" "before" "[I") qw_624) (fun _ h9 => h9) rfl dX7_add_44 ?_
    refine lv_aload_n hx hb dX7_add_47 rfl (lv_at hl 0 rfl) ?_
    refine va_get (D := D) (ci := 7) (v := .int stc) (C := RX7) (T := TX7) (N := 5) hx hb hts inlX7 hown hK hP 0 rfl rfl 4 (by decide) (hts (Cond.fieldLink RX7 24 "ChanceRings$Steps" "count" "I") qw_619) (fun _ h9 => h9) rfl dX7_add_48 ?_
    refine lv_iload hx hb dX7_add_51 (lv_at hl 4 rfl) ?_
    refine va_iast hx hb hK hP hD hS 4 0 rfl rfl (tr_in h_95535 (by decide) (by decide)) dX7_add_53 (fun H locs hP hD hS => ?_)
    obtain ⟨f_95540, f_95540_e, hP, hD⟩ : ∃ FX : Nat → Int32, FX = (upd stb (stc : Int32).toNatClampNeg p3) ∧ va_P D vwCl [(wO7 st st_what st_node st_index st_before stc), (wI g st_what 0 8 f_95537), (wI g st_node 0 8 f_95538), (wI g st_index 0 8 f_95539), (wI g st_before 0 8 FX)] H ∧ va_D A [(wO7 st st_what st_node st_index st_before stc), (wI g st_what 0 8 f_95537), (wI g st_node 0 8 f_95538), (wI g st_index 0 8 f_95539), (wI g st_before 0 8 FX)] := ⟨_, rfl, hP, hD⟩
    have hP : va_P D vwCl [(wO7 st st_what st_node st_index st_before stc), (wI g st_what 0 8 f_95537), (wI g st_node 0 8 f_95538), (wI g st_index 0 8 f_95539), (wI g st_before 0 8 f_95540)] H := hP
    have hD : va_D A [(wO7 st st_what st_node st_index st_before stc), (wI g st_what 0 8 f_95537), (wI g st_node 0 8 f_95538), (wI g st_index 0 8 f_95539), (wI g st_before 0 8 f_95540)] := hD
    refine lv_aload_n hx hb dX7_add_54 rfl (lv_at hl 0 rfl) ?_
    refine lv_dup hx hb dX7_add_55 rfl ?_
    refine va_get (D := D) (ci := 7) (v := .int stc) (C := RX7) (T := TX7) (N := 5) hx hb hts inlX7 hown hK hP 0 rfl rfl 4 (by decide) (hts (Cond.fieldLink RX7 24 "ChanceRings$Steps" "count" "I") qw_619) (fun _ h9 => h9) rfl dX7_add_56 ?_
    refine lv_iconst (v := 1) hx hb dX7_add_59 (by decide) ?_
    refine lv_iadd hx hb dX7_add_60 ?_
    refine lv_topi (fun v_95541 v_95541_e => ?_)
    have h_v_95541 : 1 ≤ (v_95541 : Int32).toInt ∧ (v_95541 : Int32).toInt ≤ 8 := by rw [v_95541_e]; exact tr_add h_95535 (⟨by decide, by decide⟩ : 1 ≤ (1 : Int32).toInt ∧ (1 : Int32).toInt ≤ 1) (by decide) (by decide) (by decide) (by decide)
    have q_v_95541 : v_95541.toInt = stc.toInt + 1 := by rw [v_95541_e]; exact tr_addE h_95535 (⟨by decide, by decide⟩ : 1 ≤ (1 : Int32).toInt ∧ (1 : Int32).toInt ≤ 1) (by decide) (by decide)
    refine va_put (D := D) (ci := 7) (v := .int v_95541) (ty := .int) (C := RX7) (T := TX7) (N := 5) hx hb hts inlX7 tyX7 tyX7_ok nmX7 hown hK hP hD hS 0 rfl rfl 4 (by decide) (hts (Cond.fieldLink RX7 24 "ChanceRings$Steps" "count" "I") qw_619) (fun _ h9 => h9) rfl (by decide +kernel) rfl rfl (Nat.le_of_ble_eq_true rfl) dX7_add_61 (fun H locs hP hD hS => ?_)
    have hP : va_P D vwCl [(wO7 st st_what st_node st_index st_before v_95541), (wI g st_what 0 8 f_95537), (wI g st_node 0 8 f_95538), (wI g st_index 0 8 f_95539), (wI g st_before 0 8 f_95540)] H := hP
    have hD : va_D A [(wO7 st st_what st_node st_index st_before v_95541), (wI g st_what 0 8 f_95537), (wI g st_node 0 8 f_95538), (wI g st_index 0 8 f_95539), (wI g st_before 0 8 f_95540)] := hD
    have hP9 := hP.sub (ws' := [(wO7 st st_what st_node st_index st_before v_95541), (wI g st_what 0 8 f_95537), (wI g st_node 0 8 f_95538), (wI g st_index 0 8 f_95539), (wI g st_before 0 8 f_95540)]) [0, 1, 2, 3, 4] rfl
    have hD9 := hD.sub (ws' := [(wO7 st st_what st_node st_index st_before v_95541), (wI g st_what 0 8 f_95537), (wI g st_node 0 8 f_95538), (wI g st_index 0 8 f_95539), (wI g st_before 0 8 f_95540)]) [0, 1, 2, 3, 4] (by decide) rfl
    exact W.vret hx hb hr (fun t ht hW => ⟨⟨(), rfl, trivial, v_95541, f_95537, f_95538, f_95539, f_95540, (tr_w h_v_95541 (by decide) (by decide)), (tr_wa h_f_95537 (by decide) (by decide)), (tr_wa h_f_95538 (by decide) (by decide)), (tr_wa h_f_95539 (by decide) (by decide)), (by rw [f_95537_e, f_95540_e]; exact tr_relupd hrel (fun _ => h_p3)), (pus_a f_95537_e (by show Int.toNat _ = _; omega) (by omega) (by have z_8 := tk_8; have z_7 := tk_7; omega) (by have z_8 := tk_8; have z_7 := tk_7; omega)), (pus_a f_95538_e (by show Int.toNat _ = _; omega) (by omega) (by have z_8 := tk_8; have z_7 := tk_7; omega) (by have z_8 := tk_8; have z_7 := tk_7; omega)), (pus_a f_95539_e (by show Int.toNat _ = _; omega) (by omega) (by have z_8 := tk_8; have z_7 := tk_7; omega) (by have z_8 := tk_8; have z_7 := tk_7; omega)), (pus_a f_95540_e (by show Int.toNat _ = _; omega) (by omega) (by have z_8 := tk_8; have z_7 := tk_7; omega) (by have z_8 := tk_8; have z_7 := tk_7; omega)), by rw [ht]; exact hP9, hD9⟩, hS.F ht⟩) hS.2.2 dX7_add_64
  · skip
    have kk_8 := tk_8
    have c_95534_i := Int32.le_iff_toInt_le.mp (Int32.not_lt.mp c_95534)
    have h_95536 : 8 ≤ (stc : Int32).toInt ∧ (stc : Int32).toInt ≤ 8 := nr_le_r (⟨by decide, by decide⟩ : 8 ≤ (8 : Int32).toInt ∧ (8 : Int32).toInt ≤ 8) h_stc c_95534_i (by decide) (by decide)
    refine lv_aload_n hx hb dX7_add_9 rfl (lv_at hl 0 rfl) ?_
    have hPc := hP.sub (ws' := [(wO7 st st_what st_node st_index st_before stc), (wI g st_what 0 8 stw), (wI g st_node 0 8 stn), (wI g st_index 0 8 sti), (wI g st_before 0 8 stb)]) [0, 1, 2, 3, 4] rfl
    have hDc := hD.sub (ws' := [(wO7 st st_what st_node st_index st_before stc), (wI g st_what 0 8 stw), (wI g st_node 0 8 stn), (wI g st_index 0 8 sti), (wI g st_before 0 8 stb)]) [0, 1, 2, 3, 4] (by decide) rfl
    have hFc := va_free (wc := [(wO7 st st_what st_node st_index st_before stc), (wI g st_what 0 8 stw), (wI g st_node 0 8 stn), (wI g st_index 0 8 sti), (wI g st_before 0 8 stb)]) hD hS hA [0, 1, 2, 3, 4] rfl
    refine va_callv (va_runV (As := []) (rest := []) ⟨hx, hb, hml, hown, hts⟩ (c_X7_forgetOldest l D g s.heap.size st st_what st_node st_index st_before stc stw stn sti stb (tr_w h_95536 (by decide) (by decide)) (tr_wa h_stw (by decide) (by decide)) (tr_wa h_stn (by decide) (by decide)) (tr_wa h_sti (by decide) (by decide)) hrel) (cwV 0 hts (tz_gV qw_625 qw_626 qw_627 qw_628 qw_629) rfl rfl rfl (by decide +kernel) ⟨Nat.le_of_ble_eq_true rfl, Nat.le_of_ble_eq_true rfl⟩) ⟨tz_blQ, va_recv hK hPc (ci := 7) (q0 := 0) rfl rfl, tz_preQ hPc hK hDc⟩ rfl rfl hl.1 rfl (lv_room (Nat.le_of_ble_eq_true rfl)) dX7_add_10 ⟨Nat.le_of_ble_eq_true rfl, Nat.le_of_ble_eq_true rfl⟩) hS (fun q _ h => hFc q h) hFc (fun u t H1 locs ht hvm hw hB hz1 hk1 hS => ?_)
    obtain ⟨ostw_95543, ostn_95544, osti_95545, ostb_95546, hf_95547, hf_95548, hf_95549, hf_95550, hf_95551, hf_95552, hf_95553, hf_95554, hP1, hD1⟩ := hB
    rw [ht] at hP1
    obtain ⟨hP, hD⟩ := va_join (wr := []) (w1 := [(wO7 st st_what st_node st_index st_before 7), (wI g st_what 0 8 ostw_95543), (wI g st_node 0 8 ostn_95544), (wI g st_index 0 8 osti_95545), (wI g st_before 0 8 ostb_95546)]) hP hD [0, 1, 2, 3, 4] [] rfl rfl (by decide) (by decide) hk1 hFc hP1 hD1
    generalize H1 = H at hP hS ⊢
    have hP : va_P D vwCl [(wO7 st st_what st_node st_index st_before 7), (wI g st_what 0 8 ostw_95543), (wI g st_node 0 8 ostn_95544), (wI g st_index 0 8 osti_95545), (wI g st_before 0 8 ostb_95546)] H := hP
    have hD : va_D A [(wO7 st st_what st_node st_index st_before 7), (wI g st_what 0 8 ostw_95543), (wI g st_node 0 8 ostn_95544), (wI g st_index 0 8 osti_95545), (wI g st_before 0 8 ostb_95546)] := hD
    refine lv_aload_n hx hb dX7_add_13 rfl (lv_at hl 0 rfl) ?_
    refine va_get (D := D) (ci := 7) (v := .ref st_what) (C := RX7) (T := TX7) (N := 5) hx hb hts inlX7 hown hK hP 0 rfl rfl 0 (by decide) (hts (Cond.fieldLink RX7 9 "ChanceRings$Steps" "what" "[I") qw_620) (fun _ h9 => h9) rfl dX7_add_14 ?_
    refine lv_aload_n hx hb dX7_add_17 rfl (lv_at hl 0 rfl) ?_
    refine va_get (D := D) (ci := 7) (v := .int 7) (C := RX7) (T := TX7) (N := 5) hx hb hts inlX7 hown hK hP 0 rfl rfl 4 (by decide) (hts (Cond.fieldLink RX7 24 "ChanceRings$Steps" "count" "I") qw_619) (fun _ h9 => h9) rfl dX7_add_18 ?_
    refine lv_iload_n hx hb dX7_add_21 rfl (lv_at hl 1 rfl) ?_
    refine va_iast hx hb hK hP hD hS 1 0 rfl rfl (tz_in (by decide +kernel)) dX7_add_22 (fun H locs hP hD hS => ?_)
    obtain ⟨f_95555, f_95555_e, h_f_95555, hP, hD⟩ : ∃ FX : Nat → Int32, FX = (upd ostw_95543 (7 : Int32).toNatClampNeg 0) ∧ (∀ j : Nat, 0 ≤ (FX j).toInt ∧ (FX j).toInt ≤ 2) ∧ va_P D vwCl [(wO7 st st_what st_node st_index st_before 7), (wI g st_what 0 8 FX), (wI g st_node 0 8 ostn_95544), (wI g st_index 0 8 osti_95545), (wI g st_before 0 8 ostb_95546)] H ∧ va_D A [(wO7 st st_what st_node st_index st_before 7), (wI g st_what 0 8 FX), (wI g st_node 0 8 ostn_95544), (wI g st_index 0 8 osti_95545), (wI g st_before 0 8 ostb_95546)] := ⟨_, rfl, tr_upd hf_95547 (⟨by decide, by decide⟩ : 0 ≤ (0 : Int32).toInt ∧ (0 : Int32).toInt ≤ 2), hP, hD⟩
    have hP : va_P D vwCl [(wO7 st st_what st_node st_index st_before 7), (wI g st_what 0 8 f_95555), (wI g st_node 0 8 ostn_95544), (wI g st_index 0 8 osti_95545), (wI g st_before 0 8 ostb_95546)] H := hP
    have hD : va_D A [(wO7 st st_what st_node st_index st_before 7), (wI g st_what 0 8 f_95555), (wI g st_node 0 8 ostn_95544), (wI g st_index 0 8 osti_95545), (wI g st_before 0 8 ostb_95546)] := hD
    refine lv_aload_n hx hb dX7_add_23 rfl (lv_at hl 0 rfl) ?_
    refine va_get (D := D) (ci := 7) (v := .ref st_node) (C := RX7) (T := TX7) (N := 5) hx hb hts inlX7 hown hK hP 0 rfl rfl 1 (by decide) (hts (Cond.fieldLink RX7 15 "ChanceRings$Steps" "node" "[I") qw_622) (fun _ h9 => h9) rfl dX7_add_24 ?_
    refine lv_aload_n hx hb dX7_add_27 rfl (lv_at hl 0 rfl) ?_
    refine va_get (D := D) (ci := 7) (v := .int 7) (C := RX7) (T := TX7) (N := 5) hx hb hts inlX7 hown hK hP 0 rfl rfl 4 (by decide) (hts (Cond.fieldLink RX7 24 "ChanceRings$Steps" "count" "I") qw_619) (fun _ h9 => h9) rfl dX7_add_28 ?_
    refine lv_iload_n hx hb dX7_add_31 rfl (lv_at hl 2 rfl) ?_
    refine va_iast hx hb hK hP hD hS 2 0 rfl rfl (tz_in (by decide +kernel)) dX7_add_32 (fun H locs hP hD hS => ?_)
    obtain ⟨f_95556, f_95556_e, h_f_95556, hP, hD⟩ : ∃ FX : Nat → Int32, FX = (upd ostn_95544 (7 : Int32).toNatClampNeg p1) ∧ (∀ j : Nat, 0 ≤ (FX j).toInt ∧ (FX j).toInt ≤ 11) ∧ va_P D vwCl [(wO7 st st_what st_node st_index st_before 7), (wI g st_what 0 8 f_95555), (wI g st_node 0 8 FX), (wI g st_index 0 8 osti_95545), (wI g st_before 0 8 ostb_95546)] H ∧ va_D A [(wO7 st st_what st_node st_index st_before 7), (wI g st_what 0 8 f_95555), (wI g st_node 0 8 FX), (wI g st_index 0 8 osti_95545), (wI g st_before 0 8 ostb_95546)] := ⟨_, rfl, tr_upd hf_95548 (tr_w h_p1 (by decide) (by decide)), hP, hD⟩
    have hP : va_P D vwCl [(wO7 st st_what st_node st_index st_before 7), (wI g st_what 0 8 f_95555), (wI g st_node 0 8 f_95556), (wI g st_index 0 8 osti_95545), (wI g st_before 0 8 ostb_95546)] H := hP
    have hD : va_D A [(wO7 st st_what st_node st_index st_before 7), (wI g st_what 0 8 f_95555), (wI g st_node 0 8 f_95556), (wI g st_index 0 8 osti_95545), (wI g st_before 0 8 ostb_95546)] := hD
    refine lv_aload_n hx hb dX7_add_33 rfl (lv_at hl 0 rfl) ?_
    refine va_get (D := D) (ci := 7) (v := .ref st_index) (C := RX7) (T := TX7) (N := 5) hx hb hts inlX7 hown hK hP 0 rfl rfl 2 (by decide) (hts (Cond.fieldLink RX7 18 "ChanceRings$Steps" "index" "[I") qw_623) (fun _ h9 => h9) rfl dX7_add_34 ?_
    refine lv_aload_n hx hb dX7_add_37 rfl (lv_at hl 0 rfl) ?_
    refine va_get (D := D) (ci := 7) (v := .int 7) (C := RX7) (T := TX7) (N := 5) hx hb hts inlX7 hown hK hP 0 rfl rfl 4 (by decide) (hts (Cond.fieldLink RX7 24 "ChanceRings$Steps" "count" "I") qw_619) (fun _ h9 => h9) rfl dX7_add_38 ?_
    refine lv_iload_n hx hb dX7_add_41 rfl (lv_at hl 3 rfl) ?_
    refine va_iast hx hb hK hP hD hS 3 0 rfl rfl (tz_in (by decide +kernel)) dX7_add_42 (fun H locs hP hD hS => ?_)
    obtain ⟨f_95557, f_95557_e, h_f_95557, hP, hD⟩ : ∃ FX : Nat → Int32, FX = (upd osti_95545 (7 : Int32).toNatClampNeg p2) ∧ (∀ j : Nat, 0 ≤ (FX j).toInt ∧ (FX j).toInt ≤ 2) ∧ va_P D vwCl [(wO7 st st_what st_node st_index st_before 7), (wI g st_what 0 8 f_95555), (wI g st_node 0 8 f_95556), (wI g st_index 0 8 FX), (wI g st_before 0 8 ostb_95546)] H ∧ va_D A [(wO7 st st_what st_node st_index st_before 7), (wI g st_what 0 8 f_95555), (wI g st_node 0 8 f_95556), (wI g st_index 0 8 FX), (wI g st_before 0 8 ostb_95546)] := ⟨_, rfl, tr_upd hf_95549 (tr_w h_p2 (by decide) (by decide)), hP, hD⟩
    have hP : va_P D vwCl [(wO7 st st_what st_node st_index st_before 7), (wI g st_what 0 8 f_95555), (wI g st_node 0 8 f_95556), (wI g st_index 0 8 f_95557), (wI g st_before 0 8 ostb_95546)] H := hP
    have hD : va_D A [(wO7 st st_what st_node st_index st_before 7), (wI g st_what 0 8 f_95555), (wI g st_node 0 8 f_95556), (wI g st_index 0 8 f_95557), (wI g st_before 0 8 ostb_95546)] := hD
    refine lv_aload_n hx hb dX7_add_43 rfl (lv_at hl 0 rfl) ?_
    refine va_get (D := D) (ci := 7) (v := .ref st_before) (C := RX7) (T := TX7) (N := 5) hx hb hts inlX7 hown hK hP 0 rfl rfl 3 (by decide) (hts (Cond.fieldLink RX7 21 "ChanceRings$Steps" "before" "[I") qw_624) (fun _ h9 => h9) rfl dX7_add_44 ?_
    refine lv_aload_n hx hb dX7_add_47 rfl (lv_at hl 0 rfl) ?_
    refine va_get (D := D) (ci := 7) (v := .int 7) (C := RX7) (T := TX7) (N := 5) hx hb hts inlX7 hown hK hP 0 rfl rfl 4 (by decide) (hts (Cond.fieldLink RX7 24 "ChanceRings$Steps" "count" "I") qw_619) (fun _ h9 => h9) rfl dX7_add_48 ?_
    refine lv_iload hx hb dX7_add_51 (lv_at hl 4 rfl) ?_
    refine va_iast hx hb hK hP hD hS 4 0 rfl rfl (tz_in (by decide +kernel)) dX7_add_53 (fun H locs hP hD hS => ?_)
    obtain ⟨f_95558, f_95558_e, hP, hD⟩ : ∃ FX : Nat → Int32, FX = (upd ostb_95546 (7 : Int32).toNatClampNeg p3) ∧ va_P D vwCl [(wO7 st st_what st_node st_index st_before 7), (wI g st_what 0 8 f_95555), (wI g st_node 0 8 f_95556), (wI g st_index 0 8 f_95557), (wI g st_before 0 8 FX)] H ∧ va_D A [(wO7 st st_what st_node st_index st_before 7), (wI g st_what 0 8 f_95555), (wI g st_node 0 8 f_95556), (wI g st_index 0 8 f_95557), (wI g st_before 0 8 FX)] := ⟨_, rfl, hP, hD⟩
    have hP : va_P D vwCl [(wO7 st st_what st_node st_index st_before 7), (wI g st_what 0 8 f_95555), (wI g st_node 0 8 f_95556), (wI g st_index 0 8 f_95557), (wI g st_before 0 8 f_95558)] H := hP
    have hD : va_D A [(wO7 st st_what st_node st_index st_before 7), (wI g st_what 0 8 f_95555), (wI g st_node 0 8 f_95556), (wI g st_index 0 8 f_95557), (wI g st_before 0 8 f_95558)] := hD
    refine lv_aload_n hx hb dX7_add_54 rfl (lv_at hl 0 rfl) ?_
    refine lv_dup hx hb dX7_add_55 rfl ?_
    refine va_get (D := D) (ci := 7) (v := .int 7) (C := RX7) (T := TX7) (N := 5) hx hb hts inlX7 hown hK hP 0 rfl rfl 4 (by decide) (hts (Cond.fieldLink RX7 24 "ChanceRings$Steps" "count" "I") qw_619) (fun _ h9 => h9) rfl dX7_add_56 ?_
    refine lv_iconst (v := 1) hx hb dX7_add_59 (by decide) ?_
    refine lv_iadd hx hb dX7_add_60 ?_
    refine tz_i (y := 8) (by decide +kernel) ?_
    refine va_put (D := D) (ci := 7) (v := .int 8) (ty := .int) (C := RX7) (T := TX7) (N := 5) hx hb hts inlX7 tyX7 tyX7_ok nmX7 hown hK hP hD hS 0 rfl rfl 4 (by decide) (hts (Cond.fieldLink RX7 24 "ChanceRings$Steps" "count" "I") qw_619) (fun _ h9 => h9) rfl (by decide +kernel) rfl rfl (Nat.le_of_ble_eq_true rfl) dX7_add_61 (fun H locs hP hD hS => ?_)
    have hP : va_P D vwCl [(wO7 st st_what st_node st_index st_before 8), (wI g st_what 0 8 f_95555), (wI g st_node 0 8 f_95556), (wI g st_index 0 8 f_95557), (wI g st_before 0 8 f_95558)] H := hP
    have hD : va_D A [(wO7 st st_what st_node st_index st_before 8), (wI g st_what 0 8 f_95555), (wI g st_node 0 8 f_95556), (wI g st_index 0 8 f_95557), (wI g st_before 0 8 f_95558)] := hD
    have hP9 := hP.sub (ws' := [(wO7 st st_what st_node st_index st_before 8), (wI g st_what 0 8 f_95555), (wI g st_node 0 8 f_95556), (wI g st_index 0 8 f_95557), (wI g st_before 0 8 f_95558)]) [0, 1, 2, 3, 4] rfl
    have hD9 := hD.sub (ws' := [(wO7 st st_what st_node st_index st_before 8), (wI g st_what 0 8 f_95555), (wI g st_node 0 8 f_95556), (wI g st_index 0 8 f_95557), (wI g st_before 0 8 f_95558)]) [0, 1, 2, 3, 4] (by decide) rfl
    exact W.vret hx hb hr (fun t ht hW => ⟨⟨(), rfl, trivial, 8, f_95555, f_95556, f_95557, f_95558, (⟨by decide, by decide⟩ : 0 ≤ (8 : Int32).toInt ∧ (8 : Int32).toInt ≤ 8), (tr_wa h_f_95555 (by decide) (by decide)), (tr_wa h_f_95556 (by decide) (by decide)), (tr_wa h_f_95557 (by decide) (by decide)), (by rw [f_95555_e, f_95558_e]; exact tr_relupd hf_95550 (fun _ => h_p3)), (pus_b hf_95551 f_95555_e (by decide) (by have z_8 := tk_8; have z_7 := tk_7; (first | (clear h_p1 h_p2 h_stc c_95534_i h_95536; omega) | omega)) (by have z_8 := tk_8; have z_7 := tk_7; (first | (clear h_p1 h_p2 h_stc c_95534_i h_95536; omega) | omega))), (pus_b hf_95552 f_95556_e (by decide) (by have z_8 := tk_8; have z_7 := tk_7; (first | (clear h_p1 h_p2 h_stc c_95534_i h_95536; omega) | omega)) (by have z_8 := tk_8; have z_7 := tk_7; (first | (clear h_p1 h_p2 h_stc c_95534_i h_95536; omega) | omega))), (pus_b hf_95553 f_95557_e (by decide) (by have z_8 := tk_8; have z_7 := tk_7; (first | (clear h_p1 h_p2 h_stc c_95534_i h_95536; omega) | omega)) (by have z_8 := tk_8; have z_7 := tk_7; (first | (clear h_p1 h_p2 h_stc c_95534_i h_95536; omega) | omega))), (pus_b hf_95554 f_95558_e (by decide) (by have z_8 := tk_8; have z_7 := tk_7; (first | (clear h_p1 h_p2 h_stc c_95534_i h_95536; omega) | omega)) (by have z_8 := tk_8; have z_7 := tk_7; (first | (clear h_p1 h_p2 h_stc c_95534_i h_95536; omega) | omega))), by rw [ht]; exact hP9, hD9⟩, hS.F ht⟩) hS.2.2 dX7_add_64
set_option maxHeartbeats 4000000 in
set_option maxRecDepth 100000 in
theorem c_X7_add1 (l : Launch) (D : va_G) (g : Nat → ClassId) (sz : Nat) (st : Nat) (p1 : Int32) (p2 : Int32) (p3 : Int32) (st_what : Nat) (st_node : Nat) (st_index : Nat) (st_before : Nat) (stc : Int32) (stw : Nat → Int32) (stn : Nat → Int32) (sti : Nat → Int32) (stb : Nat → Int32) (h_p1 : 0 ≤ (p1 : Int32).toInt ∧ (p1 : Int32).toInt ≤ 11) (h_p2 : 0 ≤ (p2 : Int32).toInt ∧ (p2 : Int32).toInt ≤ 2) (h_stc : 0 ≤ (stc : Int32).toInt ∧ (stc : Int32).toInt ≤ 8) (h_stw : ∀ j : Nat, 0 ≤ (stw j).toInt ∧ (stw j).toInt ≤ 2) (h_stn : ∀ j : Nat, 0 ≤ (stn j).toInt ∧ (stn j).toInt ≤ 11) (h_sti : ∀ j : Nat, 0 ≤ (sti j).toInt ∧ (sti j).toInt ≤ 2) (hrel : ∀ j : Nat, stw j = 0 → -1 ≤ (stb j).toInt ∧ (stb j).toInt ≤ 2) : Met l yX7_add (.code yX7_add cX7_add 5 none :: wsL_law) ({ frames := 2, cells := 0, slots := 0, locals := 80 }) (va_Pc [.ref st, .int 1, .int p1, .int p2, .int p3] (fun U => U.heap.size = sz ∧ va_P D vwCl [(wO7 st st_what st_node st_index st_before stc), (wI g st_what 0 8 stw), (wI g st_node 0 8 stn), (wI g st_index 0 8 sti), (wI g st_before 0 8 stb)] U.heap ∧ va_K D vwCl (TY g) U ∧ va_D (fun _ => True) [(wO7 st st_what st_node st_index st_before stc), (wI g st_what 0 8 stw), (wI g st_node 0 8 stn), (wI g st_index 0 8 sti), (wI g st_before 0 8 stb)])) (va_Qv (fun (_ : Unit) => True) (fun _ t => ∃ ostc : Int32, ∃ ostw : Nat → Int32, ∃ ostn : Nat → Int32, ∃ osti : Nat → Int32, ∃ ostb : Nat → Int32, (0 ≤ (ostc : Int32).toInt ∧ (ostc : Int32).toInt ≤ 8) ∧ (∀ j : Nat, 0 ≤ (ostw j).toInt ∧ (ostw j).toInt ≤ 2) ∧ (∀ j : Nat, 0 ≤ (ostn j).toInt ∧ (ostn j).toInt ≤ 11) ∧ (∀ j : Nat, 0 ≤ (osti j).toInt ∧ (osti j).toInt ≤ 2) ∧ (∀ j : Nat, ostw j = 0 → -1 ≤ (ostb j).toInt ∧ (ostb j).toInt ≤ 2) ∧ (PUs (stc : Int32).toInt (ostc : Int32).toInt stw ostw (1 : Int32)) ∧ (PUs (stc : Int32).toInt (ostc : Int32).toInt stn ostn p1) ∧ (PUs (stc : Int32).toInt (ostc : Int32).toInt sti osti p2) ∧ (PUs (stc : Int32).toInt (ostc : Int32).toInt stb ostb p3) ∧ va_P D vwCl [(wO7 st st_what st_node st_index st_before ostc), (wI g st_what 0 8 ostw), (wI g st_node 0 8 ostn), (wI g st_index 0 8 osti), (wI g st_before 0 8 ostb)] t.heap ∧ va_D (va_A [(wO7 st st_what st_node st_index st_before stc), (wI g st_what 0 8 stw), (wI g st_node 0 8 stn), (wI g st_index 0 8 sti), (wI g st_before 0 8 stb)] sz) [(wO7 st st_what st_node st_index st_before ostc), (wI g st_what 0 8 ostw), (wI g st_node 0 8 ostn), (wI g st_index 0 8 osti), (wI g st_before 0 8 ostb)]) (va_A [(wO7 st st_what st_node st_index st_before stc), (wI g st_what 0 8 stw), (wI g st_node 0 8 stn), (wI g st_index 0 8 sti), (wI g st_before 0 8 stb)] sz)) 0 0 (va_A [(wO7 st st_what st_node st_index st_before stc), (wI g st_what 0 8 stw), (wI g st_node 0 8 stn), (wI g st_index 0 8 sti), (wI g st_before 0 8 stb)] sz) := by
  refine Met.ofW (cc := cX7_add) (maxL := 5) (ret := none) (by decide) rfl ?_
  intro p e s m args below meth c s₁ B hml hv
  obtain ⟨ha, hsz, hP, hK, hD0⟩ := hv
  have hx := B.exec
  have hb := B.bytes
  have hr := B.returns
  have hts0 := atoms_spec (ws := (.code yX7_add cX7_add 5 none :: wsL_law)) B.pre
  have hts : ∀ w ∈ wsL_law, w.before args s = true := fun w h => hts0 w (List.mem_cons_of_mem _ h)
  have hown : s.vm.findClass RX7 = some m.cls := findClass_of_methodNamed B.named
  have hlocks := B.notSynchronized
  subst hsz
  have hD := hD0.self (sz := s.heap.size)
  generalize hAe : va_A [(wO7 st st_what st_node st_index st_before stc), (wI g st_what 0 8 stw), (wI g st_node 0 8 stn), (wI g st_index 0 8 sti), (wI g st_before 0 8 stb)] s.heap.size = A at hD ⊢
  have hA : ∀ q : Nat, s.heap.size ≤ q → A q := fun q h => by rw [← hAe]; exact Or.inr h
  have hS : va_S A s.heap s.heap [] := va_S.rf
  have hP : va_P D vwCl [(wO7 st st_what st_node st_index st_before stc), (wI g st_what 0 8 stw), (wI g st_node 0 8 stn), (wI g st_index 0 8 sti), (wI g st_before 0 8 stb)] s.heap := hP
  refine W.eq (g2 := entryFrame m ([.ref st, .int 1, .int p1, .int p2, .int p3] : List Value).toArray 5) (by rw [ha]) ?_
  have hl := lv_entry ([.ref st, .int 1, .int p1, .int p2, .int p3]) (n := 5) (Nat.le_of_ble_eq_true rfl)
  rw [lg_entry_eq]
  generalize (lg_sl ([.ref st, .int 1, .int p1, .int p2, .int p3]) ++ List.replicate (5 - (lg_sl ([.ref st, .int 1, .int p1, .int p2, .int p3])).length) Slot.unset).toArray = ls at hl ⊢
  have hl : lv_has ls 5 [(0, .ref st), (1, .int 1), (2, .int p1), (3, .int p2), (4, .int p3)] := hl
  refine lv_aload_n hx hb dX7_add_0 rfl (lv_at hl 0 rfl) ?_
  refine va_get (D := D) (ci := 7) (v := .int stc) (C := RX7) (T := TX7) (N := 5) hx hb hts inlX7 hown hK hP 0 rfl rfl 4 (by decide) (hts (Cond.fieldLink RX7 24 "ChanceRings$Steps" "count" "I") qw_619) (fun _ h9 => h9) rfl dX7_add_1 ?_
  refine lv_bipush (v := 8) hx hb dX7_add_4 (by decide) ?_
  refine lv_icmp_lt (tgt := 13) hx hb dX7_add_6 (by decide) (fun c_95559 => ?_) (fun c_95559 => ?_)
  · skip
    have kk_8 := tk_8
    have c_95559_i := Int32.lt_iff_toInt_lt.mp c_95559
    have h_95560 : 0 ≤ (stc : Int32).toInt ∧ (stc : Int32).toInt ≤ 7 := nr_lt_l h_stc (⟨by decide, by decide⟩ : 8 ≤ (8 : Int32).toInt ∧ (8 : Int32).toInt ≤ 8) c_95559_i (by decide) (by decide)
    refine lv_aload_n hx hb dX7_add_13 rfl (lv_at hl 0 rfl) ?_
    refine va_get (D := D) (ci := 7) (v := .ref st_what) (C := RX7) (T := TX7) (N := 5) hx hb hts inlX7 hown hK hP 0 rfl rfl 0 (by decide) (hts (Cond.fieldLink RX7 9 "ChanceRings$Steps" "what" "[I") qw_620) (fun _ h9 => h9) rfl dX7_add_14 ?_
    refine lv_aload_n hx hb dX7_add_17 rfl (lv_at hl 0 rfl) ?_
    refine va_get (D := D) (ci := 7) (v := .int stc) (C := RX7) (T := TX7) (N := 5) hx hb hts inlX7 hown hK hP 0 rfl rfl 4 (by decide) (hts (Cond.fieldLink RX7 24 "ChanceRings$Steps" "count" "I") qw_619) (fun _ h9 => h9) rfl dX7_add_18 ?_
    refine lv_iload_n hx hb dX7_add_21 rfl (lv_at hl 1 rfl) ?_
    refine va_iast hx hb hK hP hD hS 1 0 rfl rfl (tr_in h_95560 (by decide) (by decide)) dX7_add_22 (fun H locs hP hD hS => ?_)
    obtain ⟨f_95562, f_95562_e, h_f_95562, hP, hD⟩ : ∃ FX : Nat → Int32, FX = (upd stw (stc : Int32).toNatClampNeg 1) ∧ (∀ j : Nat, 0 ≤ (FX j).toInt ∧ (FX j).toInt ≤ 2) ∧ va_P D vwCl [(wO7 st st_what st_node st_index st_before stc), (wI g st_what 0 8 FX), (wI g st_node 0 8 stn), (wI g st_index 0 8 sti), (wI g st_before 0 8 stb)] H ∧ va_D A [(wO7 st st_what st_node st_index st_before stc), (wI g st_what 0 8 FX), (wI g st_node 0 8 stn), (wI g st_index 0 8 sti), (wI g st_before 0 8 stb)] := ⟨_, rfl, tr_upd h_stw (⟨by decide, by decide⟩ : 0 ≤ (1 : Int32).toInt ∧ (1 : Int32).toInt ≤ 2), hP, hD⟩
    have hP : va_P D vwCl [(wO7 st st_what st_node st_index st_before stc), (wI g st_what 0 8 f_95562), (wI g st_node 0 8 stn), (wI g st_index 0 8 sti), (wI g st_before 0 8 stb)] H := hP
    have hD : va_D A [(wO7 st st_what st_node st_index st_before stc), (wI g st_what 0 8 f_95562), (wI g st_node 0 8 stn), (wI g st_index 0 8 sti), (wI g st_before 0 8 stb)] := hD
    refine lv_aload_n hx hb dX7_add_23 rfl (lv_at hl 0 rfl) ?_
    refine va_get (D := D) (ci := 7) (v := .ref st_node) (C := RX7) (T := TX7) (N := 5) hx hb hts inlX7 hown hK hP 0 rfl rfl 1 (by decide) (hts (Cond.fieldLink RX7 15 "ChanceRings$Steps" "node" "[I") qw_622) (fun _ h9 => h9) rfl dX7_add_24 ?_
    refine lv_aload_n hx hb dX7_add_27 rfl (lv_at hl 0 rfl) ?_
    refine va_get (D := D) (ci := 7) (v := .int stc) (C := RX7) (T := TX7) (N := 5) hx hb hts inlX7 hown hK hP 0 rfl rfl 4 (by decide) (hts (Cond.fieldLink RX7 24 "ChanceRings$Steps" "count" "I") qw_619) (fun _ h9 => h9) rfl dX7_add_28 ?_
    refine lv_iload_n hx hb dX7_add_31 rfl (lv_at hl 2 rfl) ?_
    refine va_iast hx hb hK hP hD hS 2 0 rfl rfl (tr_in h_95560 (by decide) (by decide)) dX7_add_32 (fun H locs hP hD hS => ?_)
    obtain ⟨f_95563, f_95563_e, h_f_95563, hP, hD⟩ : ∃ FX : Nat → Int32, FX = (upd stn (stc : Int32).toNatClampNeg p1) ∧ (∀ j : Nat, 0 ≤ (FX j).toInt ∧ (FX j).toInt ≤ 11) ∧ va_P D vwCl [(wO7 st st_what st_node st_index st_before stc), (wI g st_what 0 8 f_95562), (wI g st_node 0 8 FX), (wI g st_index 0 8 sti), (wI g st_before 0 8 stb)] H ∧ va_D A [(wO7 st st_what st_node st_index st_before stc), (wI g st_what 0 8 f_95562), (wI g st_node 0 8 FX), (wI g st_index 0 8 sti), (wI g st_before 0 8 stb)] := ⟨_, rfl, tr_upd h_stn (tr_w h_p1 (by decide) (by decide)), hP, hD⟩
    have hP : va_P D vwCl [(wO7 st st_what st_node st_index st_before stc), (wI g st_what 0 8 f_95562), (wI g st_node 0 8 f_95563), (wI g st_index 0 8 sti), (wI g st_before 0 8 stb)] H := hP
    have hD : va_D A [(wO7 st st_what st_node st_index st_before stc), (wI g st_what 0 8 f_95562), (wI g st_node 0 8 f_95563), (wI g st_index 0 8 sti), (wI g st_before 0 8 stb)] := hD
    refine lv_aload_n hx hb dX7_add_33 rfl (lv_at hl 0 rfl) ?_
    refine va_get (D := D) (ci := 7) (v := .ref st_index) (C := RX7) (T := TX7) (N := 5) hx hb hts inlX7 hown hK hP 0 rfl rfl 2 (by decide) (hts (Cond.fieldLink RX7 18 "ChanceRings$Steps" "index" "[I") qw_623) (fun _ h9 => h9) rfl dX7_add_34 ?_
    refine lv_aload_n hx hb dX7_add_37 rfl (lv_at hl 0 rfl) ?_
    refine va_get (D := D) (ci := 7) (v := .int stc) (C := RX7) (T := TX7) (N := 5) hx hb hts inlX7 hown hK hP 0 rfl rfl 4 (by decide) (hts (Cond.fieldLink RX7 24 "ChanceRings$Steps" "count" "I") qw_619) (fun _ h9 => h9) rfl dX7_add_38 ?_
    refine lv_iload_n hx hb dX7_add_41 rfl (lv_at hl 3 rfl) ?_
    refine va_iast hx hb hK hP hD hS 3 0 rfl rfl (tr_in h_95560 (by decide) (by decide)) dX7_add_42 (fun H locs hP hD hS => ?_)
    obtain ⟨f_95564, f_95564_e, h_f_95564, hP, hD⟩ : ∃ FX : Nat → Int32, FX = (upd sti (stc : Int32).toNatClampNeg p2) ∧ (∀ j : Nat, 0 ≤ (FX j).toInt ∧ (FX j).toInt ≤ 2) ∧ va_P D vwCl [(wO7 st st_what st_node st_index st_before stc), (wI g st_what 0 8 f_95562), (wI g st_node 0 8 f_95563), (wI g st_index 0 8 FX), (wI g st_before 0 8 stb)] H ∧ va_D A [(wO7 st st_what st_node st_index st_before stc), (wI g st_what 0 8 f_95562), (wI g st_node 0 8 f_95563), (wI g st_index 0 8 FX), (wI g st_before 0 8 stb)] := ⟨_, rfl, tr_upd h_sti (tr_w h_p2 (by decide) (by decide)), hP, hD⟩
    have hP : va_P D vwCl [(wO7 st st_what st_node st_index st_before stc), (wI g st_what 0 8 f_95562), (wI g st_node 0 8 f_95563), (wI g st_index 0 8 f_95564), (wI g st_before 0 8 stb)] H := hP
    have hD : va_D A [(wO7 st st_what st_node st_index st_before stc), (wI g st_what 0 8 f_95562), (wI g st_node 0 8 f_95563), (wI g st_index 0 8 f_95564), (wI g st_before 0 8 stb)] := hD
    refine lv_aload_n hx hb dX7_add_43 rfl (lv_at hl 0 rfl) ?_
    refine va_get (D := D) (ci := 7) (v := .ref st_before) (C := RX7) (T := TX7) (N := 5) hx hb hts inlX7 hown hK hP 0 rfl rfl 3 (by decide) (hts (Cond.fieldLink RX7 21 "ChanceRings$Steps" "before" "[I") qw_624) (fun _ h9 => h9) rfl dX7_add_44 ?_
    refine lv_aload_n hx hb dX7_add_47 rfl (lv_at hl 0 rfl) ?_
    refine va_get (D := D) (ci := 7) (v := .int stc) (C := RX7) (T := TX7) (N := 5) hx hb hts inlX7 hown hK hP 0 rfl rfl 4 (by decide) (hts (Cond.fieldLink RX7 24 "ChanceRings$Steps" "count" "I") qw_619) (fun _ h9 => h9) rfl dX7_add_48 ?_
    refine lv_iload hx hb dX7_add_51 (lv_at hl 4 rfl) ?_
    refine va_iast hx hb hK hP hD hS 4 0 rfl rfl (tr_in h_95560 (by decide) (by decide)) dX7_add_53 (fun H locs hP hD hS => ?_)
    obtain ⟨f_95565, f_95565_e, hP, hD⟩ : ∃ FX : Nat → Int32, FX = (upd stb (stc : Int32).toNatClampNeg p3) ∧ va_P D vwCl [(wO7 st st_what st_node st_index st_before stc), (wI g st_what 0 8 f_95562), (wI g st_node 0 8 f_95563), (wI g st_index 0 8 f_95564), (wI g st_before 0 8 FX)] H ∧ va_D A [(wO7 st st_what st_node st_index st_before stc), (wI g st_what 0 8 f_95562), (wI g st_node 0 8 f_95563), (wI g st_index 0 8 f_95564), (wI g st_before 0 8 FX)] := ⟨_, rfl, hP, hD⟩
    have hP : va_P D vwCl [(wO7 st st_what st_node st_index st_before stc), (wI g st_what 0 8 f_95562), (wI g st_node 0 8 f_95563), (wI g st_index 0 8 f_95564), (wI g st_before 0 8 f_95565)] H := hP
    have hD : va_D A [(wO7 st st_what st_node st_index st_before stc), (wI g st_what 0 8 f_95562), (wI g st_node 0 8 f_95563), (wI g st_index 0 8 f_95564), (wI g st_before 0 8 f_95565)] := hD
    refine lv_aload_n hx hb dX7_add_54 rfl (lv_at hl 0 rfl) ?_
    refine lv_dup hx hb dX7_add_55 rfl ?_
    refine va_get (D := D) (ci := 7) (v := .int stc) (C := RX7) (T := TX7) (N := 5) hx hb hts inlX7 hown hK hP 0 rfl rfl 4 (by decide) (hts (Cond.fieldLink RX7 24 "ChanceRings$Steps" "count" "I") qw_619) (fun _ h9 => h9) rfl dX7_add_56 ?_
    refine lv_iconst (v := 1) hx hb dX7_add_59 (by decide) ?_
    refine lv_iadd hx hb dX7_add_60 ?_
    refine lv_topi (fun v_95566 v_95566_e => ?_)
    have h_v_95566 : 1 ≤ (v_95566 : Int32).toInt ∧ (v_95566 : Int32).toInt ≤ 8 := by rw [v_95566_e]; exact tr_add h_95560 (⟨by decide, by decide⟩ : 1 ≤ (1 : Int32).toInt ∧ (1 : Int32).toInt ≤ 1) (by decide) (by decide) (by decide) (by decide)
    have q_v_95566 : v_95566.toInt = stc.toInt + 1 := by rw [v_95566_e]; exact tr_addE h_95560 (⟨by decide, by decide⟩ : 1 ≤ (1 : Int32).toInt ∧ (1 : Int32).toInt ≤ 1) (by decide) (by decide)
    refine va_put (D := D) (ci := 7) (v := .int v_95566) (ty := .int) (C := RX7) (T := TX7) (N := 5) hx hb hts inlX7 tyX7 tyX7_ok nmX7 hown hK hP hD hS 0 rfl rfl 4 (by decide) (hts (Cond.fieldLink RX7 24 "ChanceRings$Steps" "count" "I") qw_619) (fun _ h9 => h9) rfl (by decide +kernel) rfl rfl (Nat.le_of_ble_eq_true rfl) dX7_add_61 (fun H locs hP hD hS => ?_)
    have hP : va_P D vwCl [(wO7 st st_what st_node st_index st_before v_95566), (wI g st_what 0 8 f_95562), (wI g st_node 0 8 f_95563), (wI g st_index 0 8 f_95564), (wI g st_before 0 8 f_95565)] H := hP
    have hD : va_D A [(wO7 st st_what st_node st_index st_before v_95566), (wI g st_what 0 8 f_95562), (wI g st_node 0 8 f_95563), (wI g st_index 0 8 f_95564), (wI g st_before 0 8 f_95565)] := hD
    have hP9 := hP.sub (ws' := [(wO7 st st_what st_node st_index st_before v_95566), (wI g st_what 0 8 f_95562), (wI g st_node 0 8 f_95563), (wI g st_index 0 8 f_95564), (wI g st_before 0 8 f_95565)]) [0, 1, 2, 3, 4] rfl
    have hD9 := hD.sub (ws' := [(wO7 st st_what st_node st_index st_before v_95566), (wI g st_what 0 8 f_95562), (wI g st_node 0 8 f_95563), (wI g st_index 0 8 f_95564), (wI g st_before 0 8 f_95565)]) [0, 1, 2, 3, 4] (by decide) rfl
    exact W.vret hx hb hr (fun t ht hW => ⟨⟨(), rfl, trivial, v_95566, f_95562, f_95563, f_95564, f_95565, (tr_w h_v_95566 (by decide) (by decide)), (tr_wa h_f_95562 (by decide) (by decide)), (tr_wa h_f_95563 (by decide) (by decide)), (tr_wa h_f_95564 (by decide) (by decide)), (by rw [f_95562_e, f_95565_e]; exact tr_relupd hrel (fun h => absurd h (by decide))), (pus_a f_95562_e (by show Int.toNat _ = _; omega) (by omega) (by have z_8 := tk_8; have z_7 := tk_7; omega) (by have z_8 := tk_8; have z_7 := tk_7; omega)), (pus_a f_95563_e (by show Int.toNat _ = _; omega) (by omega) (by have z_8 := tk_8; have z_7 := tk_7; omega) (by have z_8 := tk_8; have z_7 := tk_7; omega)), (pus_a f_95564_e (by show Int.toNat _ = _; omega) (by omega) (by have z_8 := tk_8; have z_7 := tk_7; omega) (by have z_8 := tk_8; have z_7 := tk_7; omega)), (pus_a f_95565_e (by show Int.toNat _ = _; omega) (by omega) (by have z_8 := tk_8; have z_7 := tk_7; omega) (by have z_8 := tk_8; have z_7 := tk_7; omega)), by rw [ht]; exact hP9, hD9⟩, hS.F ht⟩) hS.2.2 dX7_add_64
  · skip
    have kk_8 := tk_8
    have c_95559_i := Int32.le_iff_toInt_le.mp (Int32.not_lt.mp c_95559)
    have h_95561 : 8 ≤ (stc : Int32).toInt ∧ (stc : Int32).toInt ≤ 8 := nr_le_r (⟨by decide, by decide⟩ : 8 ≤ (8 : Int32).toInt ∧ (8 : Int32).toInt ≤ 8) h_stc c_95559_i (by decide) (by decide)
    refine lv_aload_n hx hb dX7_add_9 rfl (lv_at hl 0 rfl) ?_
    have hPc := hP.sub (ws' := [(wO7 st st_what st_node st_index st_before stc), (wI g st_what 0 8 stw), (wI g st_node 0 8 stn), (wI g st_index 0 8 sti), (wI g st_before 0 8 stb)]) [0, 1, 2, 3, 4] rfl
    have hDc := hD.sub (ws' := [(wO7 st st_what st_node st_index st_before stc), (wI g st_what 0 8 stw), (wI g st_node 0 8 stn), (wI g st_index 0 8 sti), (wI g st_before 0 8 stb)]) [0, 1, 2, 3, 4] (by decide) rfl
    have hFc := va_free (wc := [(wO7 st st_what st_node st_index st_before stc), (wI g st_what 0 8 stw), (wI g st_node 0 8 stn), (wI g st_index 0 8 sti), (wI g st_before 0 8 stb)]) hD hS hA [0, 1, 2, 3, 4] rfl
    refine va_callv (va_runV (As := []) (rest := []) ⟨hx, hb, hml, hown, hts⟩ (c_X7_forgetOldest l D g s.heap.size st st_what st_node st_index st_before stc stw stn sti stb (tr_w h_95561 (by decide) (by decide)) (tr_wa h_stw (by decide) (by decide)) (tr_wa h_stn (by decide) (by decide)) (tr_wa h_sti (by decide) (by decide)) hrel) (cwV 0 hts (tz_gV qw_625 qw_626 qw_627 qw_628 qw_629) rfl rfl rfl (by decide +kernel) ⟨Nat.le_of_ble_eq_true rfl, Nat.le_of_ble_eq_true rfl⟩) ⟨tz_blQ, va_recv hK hPc (ci := 7) (q0 := 0) rfl rfl, tz_preQ hPc hK hDc⟩ rfl rfl hl.1 rfl (lv_room (Nat.le_of_ble_eq_true rfl)) dX7_add_10 ⟨Nat.le_of_ble_eq_true rfl, Nat.le_of_ble_eq_true rfl⟩) hS (fun q _ h => hFc q h) hFc (fun u t H1 locs ht hvm hw hB hz1 hk1 hS => ?_)
    obtain ⟨ostw_95568, ostn_95569, osti_95570, ostb_95571, hf_95572, hf_95573, hf_95574, hf_95575, hf_95576, hf_95577, hf_95578, hf_95579, hP1, hD1⟩ := hB
    rw [ht] at hP1
    obtain ⟨hP, hD⟩ := va_join (wr := []) (w1 := [(wO7 st st_what st_node st_index st_before 7), (wI g st_what 0 8 ostw_95568), (wI g st_node 0 8 ostn_95569), (wI g st_index 0 8 osti_95570), (wI g st_before 0 8 ostb_95571)]) hP hD [0, 1, 2, 3, 4] [] rfl rfl (by decide) (by decide) hk1 hFc hP1 hD1
    generalize H1 = H at hP hS ⊢
    have hP : va_P D vwCl [(wO7 st st_what st_node st_index st_before 7), (wI g st_what 0 8 ostw_95568), (wI g st_node 0 8 ostn_95569), (wI g st_index 0 8 osti_95570), (wI g st_before 0 8 ostb_95571)] H := hP
    have hD : va_D A [(wO7 st st_what st_node st_index st_before 7), (wI g st_what 0 8 ostw_95568), (wI g st_node 0 8 ostn_95569), (wI g st_index 0 8 osti_95570), (wI g st_before 0 8 ostb_95571)] := hD
    refine lv_aload_n hx hb dX7_add_13 rfl (lv_at hl 0 rfl) ?_
    refine va_get (D := D) (ci := 7) (v := .ref st_what) (C := RX7) (T := TX7) (N := 5) hx hb hts inlX7 hown hK hP 0 rfl rfl 0 (by decide) (hts (Cond.fieldLink RX7 9 "ChanceRings$Steps" "what" "[I") qw_620) (fun _ h9 => h9) rfl dX7_add_14 ?_
    refine lv_aload_n hx hb dX7_add_17 rfl (lv_at hl 0 rfl) ?_
    refine va_get (D := D) (ci := 7) (v := .int 7) (C := RX7) (T := TX7) (N := 5) hx hb hts inlX7 hown hK hP 0 rfl rfl 4 (by decide) (hts (Cond.fieldLink RX7 24 "ChanceRings$Steps" "count" "I") qw_619) (fun _ h9 => h9) rfl dX7_add_18 ?_
    refine lv_iload_n hx hb dX7_add_21 rfl (lv_at hl 1 rfl) ?_
    refine va_iast hx hb hK hP hD hS 1 0 rfl rfl (tz_in (by decide +kernel)) dX7_add_22 (fun H locs hP hD hS => ?_)
    obtain ⟨f_95580, f_95580_e, h_f_95580, hP, hD⟩ : ∃ FX : Nat → Int32, FX = (upd ostw_95568 (7 : Int32).toNatClampNeg 1) ∧ (∀ j : Nat, 0 ≤ (FX j).toInt ∧ (FX j).toInt ≤ 2) ∧ va_P D vwCl [(wO7 st st_what st_node st_index st_before 7), (wI g st_what 0 8 FX), (wI g st_node 0 8 ostn_95569), (wI g st_index 0 8 osti_95570), (wI g st_before 0 8 ostb_95571)] H ∧ va_D A [(wO7 st st_what st_node st_index st_before 7), (wI g st_what 0 8 FX), (wI g st_node 0 8 ostn_95569), (wI g st_index 0 8 osti_95570), (wI g st_before 0 8 ostb_95571)] := ⟨_, rfl, tr_upd hf_95572 (⟨by decide, by decide⟩ : 0 ≤ (1 : Int32).toInt ∧ (1 : Int32).toInt ≤ 2), hP, hD⟩
    have hP : va_P D vwCl [(wO7 st st_what st_node st_index st_before 7), (wI g st_what 0 8 f_95580), (wI g st_node 0 8 ostn_95569), (wI g st_index 0 8 osti_95570), (wI g st_before 0 8 ostb_95571)] H := hP
    have hD : va_D A [(wO7 st st_what st_node st_index st_before 7), (wI g st_what 0 8 f_95580), (wI g st_node 0 8 ostn_95569), (wI g st_index 0 8 osti_95570), (wI g st_before 0 8 ostb_95571)] := hD
    refine lv_aload_n hx hb dX7_add_23 rfl (lv_at hl 0 rfl) ?_
    refine va_get (D := D) (ci := 7) (v := .ref st_node) (C := RX7) (T := TX7) (N := 5) hx hb hts inlX7 hown hK hP 0 rfl rfl 1 (by decide) (hts (Cond.fieldLink RX7 15 "ChanceRings$Steps" "node" "[I") qw_622) (fun _ h9 => h9) rfl dX7_add_24 ?_
    refine lv_aload_n hx hb dX7_add_27 rfl (lv_at hl 0 rfl) ?_
    refine va_get (D := D) (ci := 7) (v := .int 7) (C := RX7) (T := TX7) (N := 5) hx hb hts inlX7 hown hK hP 0 rfl rfl 4 (by decide) (hts (Cond.fieldLink RX7 24 "ChanceRings$Steps" "count" "I") qw_619) (fun _ h9 => h9) rfl dX7_add_28 ?_
    refine lv_iload_n hx hb dX7_add_31 rfl (lv_at hl 2 rfl) ?_
    refine va_iast hx hb hK hP hD hS 2 0 rfl rfl (tz_in (by decide +kernel)) dX7_add_32 (fun H locs hP hD hS => ?_)
    obtain ⟨f_95581, f_95581_e, h_f_95581, hP, hD⟩ : ∃ FX : Nat → Int32, FX = (upd ostn_95569 (7 : Int32).toNatClampNeg p1) ∧ (∀ j : Nat, 0 ≤ (FX j).toInt ∧ (FX j).toInt ≤ 11) ∧ va_P D vwCl [(wO7 st st_what st_node st_index st_before 7), (wI g st_what 0 8 f_95580), (wI g st_node 0 8 FX), (wI g st_index 0 8 osti_95570), (wI g st_before 0 8 ostb_95571)] H ∧ va_D A [(wO7 st st_what st_node st_index st_before 7), (wI g st_what 0 8 f_95580), (wI g st_node 0 8 FX), (wI g st_index 0 8 osti_95570), (wI g st_before 0 8 ostb_95571)] := ⟨_, rfl, tr_upd hf_95573 (tr_w h_p1 (by decide) (by decide)), hP, hD⟩
    have hP : va_P D vwCl [(wO7 st st_what st_node st_index st_before 7), (wI g st_what 0 8 f_95580), (wI g st_node 0 8 f_95581), (wI g st_index 0 8 osti_95570), (wI g st_before 0 8 ostb_95571)] H := hP
    have hD : va_D A [(wO7 st st_what st_node st_index st_before 7), (wI g st_what 0 8 f_95580), (wI g st_node 0 8 f_95581), (wI g st_index 0 8 osti_95570), (wI g st_before 0 8 ostb_95571)] := hD
    refine lv_aload_n hx hb dX7_add_33 rfl (lv_at hl 0 rfl) ?_
    refine va_get (D := D) (ci := 7) (v := .ref st_index) (C := RX7) (T := TX7) (N := 5) hx hb hts inlX7 hown hK hP 0 rfl rfl 2 (by decide) (hts (Cond.fieldLink RX7 18 "ChanceRings$Steps" "index" "[I") qw_623) (fun _ h9 => h9) rfl dX7_add_34 ?_
    refine lv_aload_n hx hb dX7_add_37 rfl (lv_at hl 0 rfl) ?_
    refine va_get (D := D) (ci := 7) (v := .int 7) (C := RX7) (T := TX7) (N := 5) hx hb hts inlX7 hown hK hP 0 rfl rfl 4 (by decide) (hts (Cond.fieldLink RX7 24 "ChanceRings$Steps" "count" "I") qw_619) (fun _ h9 => h9) rfl dX7_add_38 ?_
    refine lv_iload_n hx hb dX7_add_41 rfl (lv_at hl 3 rfl) ?_
    refine va_iast hx hb hK hP hD hS 3 0 rfl rfl (tz_in (by decide +kernel)) dX7_add_42 (fun H locs hP hD hS => ?_)
    obtain ⟨f_95582, f_95582_e, h_f_95582, hP, hD⟩ : ∃ FX : Nat → Int32, FX = (upd osti_95570 (7 : Int32).toNatClampNeg p2) ∧ (∀ j : Nat, 0 ≤ (FX j).toInt ∧ (FX j).toInt ≤ 2) ∧ va_P D vwCl [(wO7 st st_what st_node st_index st_before 7), (wI g st_what 0 8 f_95580), (wI g st_node 0 8 f_95581), (wI g st_index 0 8 FX), (wI g st_before 0 8 ostb_95571)] H ∧ va_D A [(wO7 st st_what st_node st_index st_before 7), (wI g st_what 0 8 f_95580), (wI g st_node 0 8 f_95581), (wI g st_index 0 8 FX), (wI g st_before 0 8 ostb_95571)] := ⟨_, rfl, tr_upd hf_95574 (tr_w h_p2 (by decide) (by decide)), hP, hD⟩
    have hP : va_P D vwCl [(wO7 st st_what st_node st_index st_before 7), (wI g st_what 0 8 f_95580), (wI g st_node 0 8 f_95581), (wI g st_index 0 8 f_95582), (wI g st_before 0 8 ostb_95571)] H := hP
    have hD : va_D A [(wO7 st st_what st_node st_index st_before 7), (wI g st_what 0 8 f_95580), (wI g st_node 0 8 f_95581), (wI g st_index 0 8 f_95582), (wI g st_before 0 8 ostb_95571)] := hD
    refine lv_aload_n hx hb dX7_add_43 rfl (lv_at hl 0 rfl) ?_
    refine va_get (D := D) (ci := 7) (v := .ref st_before) (C := RX7) (T := TX7) (N := 5) hx hb hts inlX7 hown hK hP 0 rfl rfl 3 (by decide) (hts (Cond.fieldLink RX7 21 "ChanceRings$Steps" "before" "[I") qw_624) (fun _ h9 => h9) rfl dX7_add_44 ?_
    refine lv_aload_n hx hb dX7_add_47 rfl (lv_at hl 0 rfl) ?_
    refine va_get (D := D) (ci := 7) (v := .int 7) (C := RX7) (T := TX7) (N := 5) hx hb hts inlX7 hown hK hP 0 rfl rfl 4 (by decide) (hts (Cond.fieldLink RX7 24 "ChanceRings$Steps" "count" "I") qw_619) (fun _ h9 => h9) rfl dX7_add_48 ?_
    refine lv_iload hx hb dX7_add_51 (lv_at hl 4 rfl) ?_
    refine va_iast hx hb hK hP hD hS 4 0 rfl rfl (tz_in (by decide +kernel)) dX7_add_53 (fun H locs hP hD hS => ?_)
    obtain ⟨f_95583, f_95583_e, hP, hD⟩ : ∃ FX : Nat → Int32, FX = (upd ostb_95571 (7 : Int32).toNatClampNeg p3) ∧ va_P D vwCl [(wO7 st st_what st_node st_index st_before 7), (wI g st_what 0 8 f_95580), (wI g st_node 0 8 f_95581), (wI g st_index 0 8 f_95582), (wI g st_before 0 8 FX)] H ∧ va_D A [(wO7 st st_what st_node st_index st_before 7), (wI g st_what 0 8 f_95580), (wI g st_node 0 8 f_95581), (wI g st_index 0 8 f_95582), (wI g st_before 0 8 FX)] := ⟨_, rfl, hP, hD⟩
    have hP : va_P D vwCl [(wO7 st st_what st_node st_index st_before 7), (wI g st_what 0 8 f_95580), (wI g st_node 0 8 f_95581), (wI g st_index 0 8 f_95582), (wI g st_before 0 8 f_95583)] H := hP
    have hD : va_D A [(wO7 st st_what st_node st_index st_before 7), (wI g st_what 0 8 f_95580), (wI g st_node 0 8 f_95581), (wI g st_index 0 8 f_95582), (wI g st_before 0 8 f_95583)] := hD
    refine lv_aload_n hx hb dX7_add_54 rfl (lv_at hl 0 rfl) ?_
    refine lv_dup hx hb dX7_add_55 rfl ?_
    refine va_get (D := D) (ci := 7) (v := .int 7) (C := RX7) (T := TX7) (N := 5) hx hb hts inlX7 hown hK hP 0 rfl rfl 4 (by decide) (hts (Cond.fieldLink RX7 24 "ChanceRings$Steps" "count" "I") qw_619) (fun _ h9 => h9) rfl dX7_add_56 ?_
    refine lv_iconst (v := 1) hx hb dX7_add_59 (by decide) ?_
    refine lv_iadd hx hb dX7_add_60 ?_
    refine tz_i (y := 8) (by decide +kernel) ?_
    refine va_put (D := D) (ci := 7) (v := .int 8) (ty := .int) (C := RX7) (T := TX7) (N := 5) hx hb hts inlX7 tyX7 tyX7_ok nmX7 hown hK hP hD hS 0 rfl rfl 4 (by decide) (hts (Cond.fieldLink RX7 24 "ChanceRings$Steps" "count" "I") qw_619) (fun _ h9 => h9) rfl (by decide +kernel) rfl rfl (Nat.le_of_ble_eq_true rfl) dX7_add_61 (fun H locs hP hD hS => ?_)
    have hP : va_P D vwCl [(wO7 st st_what st_node st_index st_before 8), (wI g st_what 0 8 f_95580), (wI g st_node 0 8 f_95581), (wI g st_index 0 8 f_95582), (wI g st_before 0 8 f_95583)] H := hP
    have hD : va_D A [(wO7 st st_what st_node st_index st_before 8), (wI g st_what 0 8 f_95580), (wI g st_node 0 8 f_95581), (wI g st_index 0 8 f_95582), (wI g st_before 0 8 f_95583)] := hD
    have hP9 := hP.sub (ws' := [(wO7 st st_what st_node st_index st_before 8), (wI g st_what 0 8 f_95580), (wI g st_node 0 8 f_95581), (wI g st_index 0 8 f_95582), (wI g st_before 0 8 f_95583)]) [0, 1, 2, 3, 4] rfl
    have hD9 := hD.sub (ws' := [(wO7 st st_what st_node st_index st_before 8), (wI g st_what 0 8 f_95580), (wI g st_node 0 8 f_95581), (wI g st_index 0 8 f_95582), (wI g st_before 0 8 f_95583)]) [0, 1, 2, 3, 4] (by decide) rfl
    exact W.vret hx hb hr (fun t ht hW => ⟨⟨(), rfl, trivial, 8, f_95580, f_95581, f_95582, f_95583, (⟨by decide, by decide⟩ : 0 ≤ (8 : Int32).toInt ∧ (8 : Int32).toInt ≤ 8), (tr_wa h_f_95580 (by decide) (by decide)), (tr_wa h_f_95581 (by decide) (by decide)), (tr_wa h_f_95582 (by decide) (by decide)), (by rw [f_95580_e, f_95583_e]; exact tr_relupd hf_95575 (fun h => absurd h (by decide))), (pus_b hf_95576 f_95580_e (by decide) (by have z_8 := tk_8; have z_7 := tk_7; (first | (clear h_p1 h_p2 h_stc c_95559_i h_95561; omega) | omega)) (by have z_8 := tk_8; have z_7 := tk_7; (first | (clear h_p1 h_p2 h_stc c_95559_i h_95561; omega) | omega))), (pus_b hf_95577 f_95581_e (by decide) (by have z_8 := tk_8; have z_7 := tk_7; (first | (clear h_p1 h_p2 h_stc c_95559_i h_95561; omega) | omega)) (by have z_8 := tk_8; have z_7 := tk_7; (first | (clear h_p1 h_p2 h_stc c_95559_i h_95561; omega) | omega))), (pus_b hf_95578 f_95582_e (by decide) (by have z_8 := tk_8; have z_7 := tk_7; (first | (clear h_p1 h_p2 h_stc c_95559_i h_95561; omega) | omega)) (by have z_8 := tk_8; have z_7 := tk_7; (first | (clear h_p1 h_p2 h_stc c_95559_i h_95561; omega) | omega))), (pus_b hf_95579 f_95583_e (by decide) (by have z_8 := tk_8; have z_7 := tk_7; (first | (clear h_p1 h_p2 h_stc c_95559_i h_95561; omega) | omega)) (by have z_8 := tk_8; have z_7 := tk_7; (first | (clear h_p1 h_p2 h_stc c_95559_i h_95561; omega) | omega))), by rw [ht]; exact hP9, hD9⟩, hS.F ht⟩) hS.2.2 dX7_add_64
set_option maxHeartbeats 4000000 in
set_option maxRecDepth 100000 in
theorem c_X7_add2 (l : Launch) (D : va_G) (g : Nat → ClassId) (sz : Nat) (st : Nat) (p1 : Int32) (p2 : Int32) (p3 : Int32) (st_what : Nat) (st_node : Nat) (st_index : Nat) (st_before : Nat) (stc : Int32) (stw : Nat → Int32) (stn : Nat → Int32) (sti : Nat → Int32) (stb : Nat → Int32) (h_p1 : 0 ≤ (p1 : Int32).toInt ∧ (p1 : Int32).toInt ≤ 11) (h_p2 : 0 ≤ (p2 : Int32).toInt ∧ (p2 : Int32).toInt ≤ 2) (h_stc : 0 ≤ (stc : Int32).toInt ∧ (stc : Int32).toInt ≤ 8) (h_stw : ∀ j : Nat, 0 ≤ (stw j).toInt ∧ (stw j).toInt ≤ 2) (h_stn : ∀ j : Nat, 0 ≤ (stn j).toInt ∧ (stn j).toInt ≤ 11) (h_sti : ∀ j : Nat, 0 ≤ (sti j).toInt ∧ (sti j).toInt ≤ 2) (hrel : ∀ j : Nat, stw j = 0 → -1 ≤ (stb j).toInt ∧ (stb j).toInt ≤ 2) : Met l yX7_add (.code yX7_add cX7_add 5 none :: wsL_law) ({ frames := 2, cells := 0, slots := 0, locals := 80 }) (va_Pc [.ref st, .int 2, .int p1, .int p2, .int p3] (fun U => U.heap.size = sz ∧ va_P D vwCl [(wO7 st st_what st_node st_index st_before stc), (wI g st_what 0 8 stw), (wI g st_node 0 8 stn), (wI g st_index 0 8 sti), (wI g st_before 0 8 stb)] U.heap ∧ va_K D vwCl (TY g) U ∧ va_D (fun _ => True) [(wO7 st st_what st_node st_index st_before stc), (wI g st_what 0 8 stw), (wI g st_node 0 8 stn), (wI g st_index 0 8 sti), (wI g st_before 0 8 stb)])) (va_Qv (fun (_ : Unit) => True) (fun _ t => ∃ ostc : Int32, ∃ ostw : Nat → Int32, ∃ ostn : Nat → Int32, ∃ osti : Nat → Int32, ∃ ostb : Nat → Int32, (0 ≤ (ostc : Int32).toInt ∧ (ostc : Int32).toInt ≤ 8) ∧ (∀ j : Nat, 0 ≤ (ostw j).toInt ∧ (ostw j).toInt ≤ 2) ∧ (∀ j : Nat, 0 ≤ (ostn j).toInt ∧ (ostn j).toInt ≤ 11) ∧ (∀ j : Nat, 0 ≤ (osti j).toInt ∧ (osti j).toInt ≤ 2) ∧ (∀ j : Nat, ostw j = 0 → -1 ≤ (ostb j).toInt ∧ (ostb j).toInt ≤ 2) ∧ (PUs (stc : Int32).toInt (ostc : Int32).toInt stw ostw (2 : Int32)) ∧ (PUs (stc : Int32).toInt (ostc : Int32).toInt stn ostn p1) ∧ (PUs (stc : Int32).toInt (ostc : Int32).toInt sti osti p2) ∧ (PUs (stc : Int32).toInt (ostc : Int32).toInt stb ostb p3) ∧ va_P D vwCl [(wO7 st st_what st_node st_index st_before ostc), (wI g st_what 0 8 ostw), (wI g st_node 0 8 ostn), (wI g st_index 0 8 osti), (wI g st_before 0 8 ostb)] t.heap ∧ va_D (va_A [(wO7 st st_what st_node st_index st_before stc), (wI g st_what 0 8 stw), (wI g st_node 0 8 stn), (wI g st_index 0 8 sti), (wI g st_before 0 8 stb)] sz) [(wO7 st st_what st_node st_index st_before ostc), (wI g st_what 0 8 ostw), (wI g st_node 0 8 ostn), (wI g st_index 0 8 osti), (wI g st_before 0 8 ostb)]) (va_A [(wO7 st st_what st_node st_index st_before stc), (wI g st_what 0 8 stw), (wI g st_node 0 8 stn), (wI g st_index 0 8 sti), (wI g st_before 0 8 stb)] sz)) 0 0 (va_A [(wO7 st st_what st_node st_index st_before stc), (wI g st_what 0 8 stw), (wI g st_node 0 8 stn), (wI g st_index 0 8 sti), (wI g st_before 0 8 stb)] sz) := by
  refine Met.ofW (cc := cX7_add) (maxL := 5) (ret := none) (by decide) rfl ?_
  intro p e s m args below meth c s₁ B hml hv
  obtain ⟨ha, hsz, hP, hK, hD0⟩ := hv
  have hx := B.exec
  have hb := B.bytes
  have hr := B.returns
  have hts0 := atoms_spec (ws := (.code yX7_add cX7_add 5 none :: wsL_law)) B.pre
  have hts : ∀ w ∈ wsL_law, w.before args s = true := fun w h => hts0 w (List.mem_cons_of_mem _ h)
  have hown : s.vm.findClass RX7 = some m.cls := findClass_of_methodNamed B.named
  have hlocks := B.notSynchronized
  subst hsz
  have hD := hD0.self (sz := s.heap.size)
  generalize hAe : va_A [(wO7 st st_what st_node st_index st_before stc), (wI g st_what 0 8 stw), (wI g st_node 0 8 stn), (wI g st_index 0 8 sti), (wI g st_before 0 8 stb)] s.heap.size = A at hD ⊢
  have hA : ∀ q : Nat, s.heap.size ≤ q → A q := fun q h => by rw [← hAe]; exact Or.inr h
  have hS : va_S A s.heap s.heap [] := va_S.rf
  have hP : va_P D vwCl [(wO7 st st_what st_node st_index st_before stc), (wI g st_what 0 8 stw), (wI g st_node 0 8 stn), (wI g st_index 0 8 sti), (wI g st_before 0 8 stb)] s.heap := hP
  refine W.eq (g2 := entryFrame m ([.ref st, .int 2, .int p1, .int p2, .int p3] : List Value).toArray 5) (by rw [ha]) ?_
  have hl := lv_entry ([.ref st, .int 2, .int p1, .int p2, .int p3]) (n := 5) (Nat.le_of_ble_eq_true rfl)
  rw [lg_entry_eq]
  generalize (lg_sl ([.ref st, .int 2, .int p1, .int p2, .int p3]) ++ List.replicate (5 - (lg_sl ([.ref st, .int 2, .int p1, .int p2, .int p3])).length) Slot.unset).toArray = ls at hl ⊢
  have hl : lv_has ls 5 [(0, .ref st), (1, .int 2), (2, .int p1), (3, .int p2), (4, .int p3)] := hl
  refine lv_aload_n hx hb dX7_add_0 rfl (lv_at hl 0 rfl) ?_
  refine va_get (D := D) (ci := 7) (v := .int stc) (C := RX7) (T := TX7) (N := 5) hx hb hts inlX7 hown hK hP 0 rfl rfl 4 (by decide) (hts (Cond.fieldLink RX7 24 "ChanceRings$Steps" "count" "I") qw_619) (fun _ h9 => h9) rfl dX7_add_1 ?_
  refine lv_bipush (v := 8) hx hb dX7_add_4 (by decide) ?_
  refine lv_icmp_lt (tgt := 13) hx hb dX7_add_6 (by decide) (fun c_95584 => ?_) (fun c_95584 => ?_)
  · skip
    have kk_8 := tk_8
    have c_95584_i := Int32.lt_iff_toInt_lt.mp c_95584
    have h_95585 : 0 ≤ (stc : Int32).toInt ∧ (stc : Int32).toInt ≤ 7 := nr_lt_l h_stc (⟨by decide, by decide⟩ : 8 ≤ (8 : Int32).toInt ∧ (8 : Int32).toInt ≤ 8) c_95584_i (by decide) (by decide)
    refine lv_aload_n hx hb dX7_add_13 rfl (lv_at hl 0 rfl) ?_
    refine va_get (D := D) (ci := 7) (v := .ref st_what) (C := RX7) (T := TX7) (N := 5) hx hb hts inlX7 hown hK hP 0 rfl rfl 0 (by decide) (hts (Cond.fieldLink RX7 9 "ChanceRings$Steps" "what" "[I") qw_620) (fun _ h9 => h9) rfl dX7_add_14 ?_
    refine lv_aload_n hx hb dX7_add_17 rfl (lv_at hl 0 rfl) ?_
    refine va_get (D := D) (ci := 7) (v := .int stc) (C := RX7) (T := TX7) (N := 5) hx hb hts inlX7 hown hK hP 0 rfl rfl 4 (by decide) (hts (Cond.fieldLink RX7 24 "ChanceRings$Steps" "count" "I") qw_619) (fun _ h9 => h9) rfl dX7_add_18 ?_
    refine lv_iload_n hx hb dX7_add_21 rfl (lv_at hl 1 rfl) ?_
    refine va_iast hx hb hK hP hD hS 1 0 rfl rfl (tr_in h_95585 (by decide) (by decide)) dX7_add_22 (fun H locs hP hD hS => ?_)
    obtain ⟨f_95587, f_95587_e, h_f_95587, hP, hD⟩ : ∃ FX : Nat → Int32, FX = (upd stw (stc : Int32).toNatClampNeg 2) ∧ (∀ j : Nat, 0 ≤ (FX j).toInt ∧ (FX j).toInt ≤ 2) ∧ va_P D vwCl [(wO7 st st_what st_node st_index st_before stc), (wI g st_what 0 8 FX), (wI g st_node 0 8 stn), (wI g st_index 0 8 sti), (wI g st_before 0 8 stb)] H ∧ va_D A [(wO7 st st_what st_node st_index st_before stc), (wI g st_what 0 8 FX), (wI g st_node 0 8 stn), (wI g st_index 0 8 sti), (wI g st_before 0 8 stb)] := ⟨_, rfl, tr_upd h_stw (⟨by decide, by decide⟩ : 0 ≤ (2 : Int32).toInt ∧ (2 : Int32).toInt ≤ 2), hP, hD⟩
    have hP : va_P D vwCl [(wO7 st st_what st_node st_index st_before stc), (wI g st_what 0 8 f_95587), (wI g st_node 0 8 stn), (wI g st_index 0 8 sti), (wI g st_before 0 8 stb)] H := hP
    have hD : va_D A [(wO7 st st_what st_node st_index st_before stc), (wI g st_what 0 8 f_95587), (wI g st_node 0 8 stn), (wI g st_index 0 8 sti), (wI g st_before 0 8 stb)] := hD
    refine lv_aload_n hx hb dX7_add_23 rfl (lv_at hl 0 rfl) ?_
    refine va_get (D := D) (ci := 7) (v := .ref st_node) (C := RX7) (T := TX7) (N := 5) hx hb hts inlX7 hown hK hP 0 rfl rfl 1 (by decide) (hts (Cond.fieldLink RX7 15 "ChanceRings$Steps" "node" "[I") qw_622) (fun _ h9 => h9) rfl dX7_add_24 ?_
    refine lv_aload_n hx hb dX7_add_27 rfl (lv_at hl 0 rfl) ?_
    refine va_get (D := D) (ci := 7) (v := .int stc) (C := RX7) (T := TX7) (N := 5) hx hb hts inlX7 hown hK hP 0 rfl rfl 4 (by decide) (hts (Cond.fieldLink RX7 24 "ChanceRings$Steps" "count" "I") qw_619) (fun _ h9 => h9) rfl dX7_add_28 ?_
    refine lv_iload_n hx hb dX7_add_31 rfl (lv_at hl 2 rfl) ?_
    refine va_iast hx hb hK hP hD hS 2 0 rfl rfl (tr_in h_95585 (by decide) (by decide)) dX7_add_32 (fun H locs hP hD hS => ?_)
    obtain ⟨f_95588, f_95588_e, h_f_95588, hP, hD⟩ : ∃ FX : Nat → Int32, FX = (upd stn (stc : Int32).toNatClampNeg p1) ∧ (∀ j : Nat, 0 ≤ (FX j).toInt ∧ (FX j).toInt ≤ 11) ∧ va_P D vwCl [(wO7 st st_what st_node st_index st_before stc), (wI g st_what 0 8 f_95587), (wI g st_node 0 8 FX), (wI g st_index 0 8 sti), (wI g st_before 0 8 stb)] H ∧ va_D A [(wO7 st st_what st_node st_index st_before stc), (wI g st_what 0 8 f_95587), (wI g st_node 0 8 FX), (wI g st_index 0 8 sti), (wI g st_before 0 8 stb)] := ⟨_, rfl, tr_upd h_stn (tr_w h_p1 (by decide) (by decide)), hP, hD⟩
    have hP : va_P D vwCl [(wO7 st st_what st_node st_index st_before stc), (wI g st_what 0 8 f_95587), (wI g st_node 0 8 f_95588), (wI g st_index 0 8 sti), (wI g st_before 0 8 stb)] H := hP
    have hD : va_D A [(wO7 st st_what st_node st_index st_before stc), (wI g st_what 0 8 f_95587), (wI g st_node 0 8 f_95588), (wI g st_index 0 8 sti), (wI g st_before 0 8 stb)] := hD
    refine lv_aload_n hx hb dX7_add_33 rfl (lv_at hl 0 rfl) ?_
    refine va_get (D := D) (ci := 7) (v := .ref st_index) (C := RX7) (T := TX7) (N := 5) hx hb hts inlX7 hown hK hP 0 rfl rfl 2 (by decide) (hts (Cond.fieldLink RX7 18 "ChanceRings$Steps" "index" "[I") qw_623) (fun _ h9 => h9) rfl dX7_add_34 ?_
    refine lv_aload_n hx hb dX7_add_37 rfl (lv_at hl 0 rfl) ?_
    refine va_get (D := D) (ci := 7) (v := .int stc) (C := RX7) (T := TX7) (N := 5) hx hb hts inlX7 hown hK hP 0 rfl rfl 4 (by decide) (hts (Cond.fieldLink RX7 24 "ChanceRings$Steps" "count" "I") qw_619) (fun _ h9 => h9) rfl dX7_add_38 ?_
    refine lv_iload_n hx hb dX7_add_41 rfl (lv_at hl 3 rfl) ?_
    refine va_iast hx hb hK hP hD hS 3 0 rfl rfl (tr_in h_95585 (by decide) (by decide)) dX7_add_42 (fun H locs hP hD hS => ?_)
    obtain ⟨f_95589, f_95589_e, h_f_95589, hP, hD⟩ : ∃ FX : Nat → Int32, FX = (upd sti (stc : Int32).toNatClampNeg p2) ∧ (∀ j : Nat, 0 ≤ (FX j).toInt ∧ (FX j).toInt ≤ 2) ∧ va_P D vwCl [(wO7 st st_what st_node st_index st_before stc), (wI g st_what 0 8 f_95587), (wI g st_node 0 8 f_95588), (wI g st_index 0 8 FX), (wI g st_before 0 8 stb)] H ∧ va_D A [(wO7 st st_what st_node st_index st_before stc), (wI g st_what 0 8 f_95587), (wI g st_node 0 8 f_95588), (wI g st_index 0 8 FX), (wI g st_before 0 8 stb)] := ⟨_, rfl, tr_upd h_sti (tr_w h_p2 (by decide) (by decide)), hP, hD⟩
    have hP : va_P D vwCl [(wO7 st st_what st_node st_index st_before stc), (wI g st_what 0 8 f_95587), (wI g st_node 0 8 f_95588), (wI g st_index 0 8 f_95589), (wI g st_before 0 8 stb)] H := hP
    have hD : va_D A [(wO7 st st_what st_node st_index st_before stc), (wI g st_what 0 8 f_95587), (wI g st_node 0 8 f_95588), (wI g st_index 0 8 f_95589), (wI g st_before 0 8 stb)] := hD
    refine lv_aload_n hx hb dX7_add_43 rfl (lv_at hl 0 rfl) ?_
    refine va_get (D := D) (ci := 7) (v := .ref st_before) (C := RX7) (T := TX7) (N := 5) hx hb hts inlX7 hown hK hP 0 rfl rfl 3 (by decide) (hts (Cond.fieldLink RX7 21 "ChanceRings$Steps" "before" "[I") qw_624) (fun _ h9 => h9) rfl dX7_add_44 ?_
    refine lv_aload_n hx hb dX7_add_47 rfl (lv_at hl 0 rfl) ?_
    refine va_get (D := D) (ci := 7) (v := .int stc) (C := RX7) (T := TX7) (N := 5) hx hb hts inlX7 hown hK hP 0 rfl rfl 4 (by decide) (hts (Cond.fieldLink RX7 24 "ChanceRings$Steps" "count" "I") qw_619) (fun _ h9 => h9) rfl dX7_add_48 ?_
    refine lv_iload hx hb dX7_add_51 (lv_at hl 4 rfl) ?_
    refine va_iast hx hb hK hP hD hS 4 0 rfl rfl (tr_in h_95585 (by decide) (by decide)) dX7_add_53 (fun H locs hP hD hS => ?_)
    obtain ⟨f_95590, f_95590_e, hP, hD⟩ : ∃ FX : Nat → Int32, FX = (upd stb (stc : Int32).toNatClampNeg p3) ∧ va_P D vwCl [(wO7 st st_what st_node st_index st_before stc), (wI g st_what 0 8 f_95587), (wI g st_node 0 8 f_95588), (wI g st_index 0 8 f_95589), (wI g st_before 0 8 FX)] H ∧ va_D A [(wO7 st st_what st_node st_index st_before stc), (wI g st_what 0 8 f_95587), (wI g st_node 0 8 f_95588), (wI g st_index 0 8 f_95589), (wI g st_before 0 8 FX)] := ⟨_, rfl, hP, hD⟩
    have hP : va_P D vwCl [(wO7 st st_what st_node st_index st_before stc), (wI g st_what 0 8 f_95587), (wI g st_node 0 8 f_95588), (wI g st_index 0 8 f_95589), (wI g st_before 0 8 f_95590)] H := hP
    have hD : va_D A [(wO7 st st_what st_node st_index st_before stc), (wI g st_what 0 8 f_95587), (wI g st_node 0 8 f_95588), (wI g st_index 0 8 f_95589), (wI g st_before 0 8 f_95590)] := hD
    refine lv_aload_n hx hb dX7_add_54 rfl (lv_at hl 0 rfl) ?_
    refine lv_dup hx hb dX7_add_55 rfl ?_
    refine va_get (D := D) (ci := 7) (v := .int stc) (C := RX7) (T := TX7) (N := 5) hx hb hts inlX7 hown hK hP 0 rfl rfl 4 (by decide) (hts (Cond.fieldLink RX7 24 "ChanceRings$Steps" "count" "I") qw_619) (fun _ h9 => h9) rfl dX7_add_56 ?_
    refine lv_iconst (v := 1) hx hb dX7_add_59 (by decide) ?_
    refine lv_iadd hx hb dX7_add_60 ?_
    refine lv_topi (fun v_95591 v_95591_e => ?_)
    have h_v_95591 : 1 ≤ (v_95591 : Int32).toInt ∧ (v_95591 : Int32).toInt ≤ 8 := by rw [v_95591_e]; exact tr_add h_95585 (⟨by decide, by decide⟩ : 1 ≤ (1 : Int32).toInt ∧ (1 : Int32).toInt ≤ 1) (by decide) (by decide) (by decide) (by decide)
    have q_v_95591 : v_95591.toInt = stc.toInt + 1 := by rw [v_95591_e]; exact tr_addE h_95585 (⟨by decide, by decide⟩ : 1 ≤ (1 : Int32).toInt ∧ (1 : Int32).toInt ≤ 1) (by decide) (by decide)
    refine va_put (D := D) (ci := 7) (v := .int v_95591) (ty := .int) (C := RX7) (T := TX7) (N := 5) hx hb hts inlX7 tyX7 tyX7_ok nmX7 hown hK hP hD hS 0 rfl rfl 4 (by decide) (hts (Cond.fieldLink RX7 24 "ChanceRings$Steps" "count" "I") qw_619) (fun _ h9 => h9) rfl (by decide +kernel) rfl rfl (Nat.le_of_ble_eq_true rfl) dX7_add_61 (fun H locs hP hD hS => ?_)
    have hP : va_P D vwCl [(wO7 st st_what st_node st_index st_before v_95591), (wI g st_what 0 8 f_95587), (wI g st_node 0 8 f_95588), (wI g st_index 0 8 f_95589), (wI g st_before 0 8 f_95590)] H := hP
    have hD : va_D A [(wO7 st st_what st_node st_index st_before v_95591), (wI g st_what 0 8 f_95587), (wI g st_node 0 8 f_95588), (wI g st_index 0 8 f_95589), (wI g st_before 0 8 f_95590)] := hD
    have hP9 := hP.sub (ws' := [(wO7 st st_what st_node st_index st_before v_95591), (wI g st_what 0 8 f_95587), (wI g st_node 0 8 f_95588), (wI g st_index 0 8 f_95589), (wI g st_before 0 8 f_95590)]) [0, 1, 2, 3, 4] rfl
    have hD9 := hD.sub (ws' := [(wO7 st st_what st_node st_index st_before v_95591), (wI g st_what 0 8 f_95587), (wI g st_node 0 8 f_95588), (wI g st_index 0 8 f_95589), (wI g st_before 0 8 f_95590)]) [0, 1, 2, 3, 4] (by decide) rfl
    exact W.vret hx hb hr (fun t ht hW => ⟨⟨(), rfl, trivial, v_95591, f_95587, f_95588, f_95589, f_95590, (tr_w h_v_95591 (by decide) (by decide)), (tr_wa h_f_95587 (by decide) (by decide)), (tr_wa h_f_95588 (by decide) (by decide)), (tr_wa h_f_95589 (by decide) (by decide)), (by rw [f_95587_e, f_95590_e]; exact tr_relupd hrel (fun h => absurd h (by decide))), (pus_a f_95587_e (by show Int.toNat _ = _; omega) (by omega) (by have z_8 := tk_8; have z_7 := tk_7; omega) (by have z_8 := tk_8; have z_7 := tk_7; omega)), (pus_a f_95588_e (by show Int.toNat _ = _; omega) (by omega) (by have z_8 := tk_8; have z_7 := tk_7; omega) (by have z_8 := tk_8; have z_7 := tk_7; omega)), (pus_a f_95589_e (by show Int.toNat _ = _; omega) (by omega) (by have z_8 := tk_8; have z_7 := tk_7; omega) (by have z_8 := tk_8; have z_7 := tk_7; omega)), (pus_a f_95590_e (by show Int.toNat _ = _; omega) (by omega) (by have z_8 := tk_8; have z_7 := tk_7; omega) (by have z_8 := tk_8; have z_7 := tk_7; omega)), by rw [ht]; exact hP9, hD9⟩, hS.F ht⟩) hS.2.2 dX7_add_64
  · skip
    have kk_8 := tk_8
    have c_95584_i := Int32.le_iff_toInt_le.mp (Int32.not_lt.mp c_95584)
    have h_95586 : 8 ≤ (stc : Int32).toInt ∧ (stc : Int32).toInt ≤ 8 := nr_le_r (⟨by decide, by decide⟩ : 8 ≤ (8 : Int32).toInt ∧ (8 : Int32).toInt ≤ 8) h_stc c_95584_i (by decide) (by decide)
    refine lv_aload_n hx hb dX7_add_9 rfl (lv_at hl 0 rfl) ?_
    have hPc := hP.sub (ws' := [(wO7 st st_what st_node st_index st_before stc), (wI g st_what 0 8 stw), (wI g st_node 0 8 stn), (wI g st_index 0 8 sti), (wI g st_before 0 8 stb)]) [0, 1, 2, 3, 4] rfl
    have hDc := hD.sub (ws' := [(wO7 st st_what st_node st_index st_before stc), (wI g st_what 0 8 stw), (wI g st_node 0 8 stn), (wI g st_index 0 8 sti), (wI g st_before 0 8 stb)]) [0, 1, 2, 3, 4] (by decide) rfl
    have hFc := va_free (wc := [(wO7 st st_what st_node st_index st_before stc), (wI g st_what 0 8 stw), (wI g st_node 0 8 stn), (wI g st_index 0 8 sti), (wI g st_before 0 8 stb)]) hD hS hA [0, 1, 2, 3, 4] rfl
    refine va_callv (va_runV (As := []) (rest := []) ⟨hx, hb, hml, hown, hts⟩ (c_X7_forgetOldest l D g s.heap.size st st_what st_node st_index st_before stc stw stn sti stb (tr_w h_95586 (by decide) (by decide)) (tr_wa h_stw (by decide) (by decide)) (tr_wa h_stn (by decide) (by decide)) (tr_wa h_sti (by decide) (by decide)) hrel) (cwV 0 hts (tz_gV qw_625 qw_626 qw_627 qw_628 qw_629) rfl rfl rfl (by decide +kernel) ⟨Nat.le_of_ble_eq_true rfl, Nat.le_of_ble_eq_true rfl⟩) ⟨tz_blQ, va_recv hK hPc (ci := 7) (q0 := 0) rfl rfl, tz_preQ hPc hK hDc⟩ rfl rfl hl.1 rfl (lv_room (Nat.le_of_ble_eq_true rfl)) dX7_add_10 ⟨Nat.le_of_ble_eq_true rfl, Nat.le_of_ble_eq_true rfl⟩) hS (fun q _ h => hFc q h) hFc (fun u t H1 locs ht hvm hw hB hz1 hk1 hS => ?_)
    obtain ⟨ostw_95593, ostn_95594, osti_95595, ostb_95596, hf_95597, hf_95598, hf_95599, hf_95600, hf_95601, hf_95602, hf_95603, hf_95604, hP1, hD1⟩ := hB
    rw [ht] at hP1
    obtain ⟨hP, hD⟩ := va_join (wr := []) (w1 := [(wO7 st st_what st_node st_index st_before 7), (wI g st_what 0 8 ostw_95593), (wI g st_node 0 8 ostn_95594), (wI g st_index 0 8 osti_95595), (wI g st_before 0 8 ostb_95596)]) hP hD [0, 1, 2, 3, 4] [] rfl rfl (by decide) (by decide) hk1 hFc hP1 hD1
    generalize H1 = H at hP hS ⊢
    have hP : va_P D vwCl [(wO7 st st_what st_node st_index st_before 7), (wI g st_what 0 8 ostw_95593), (wI g st_node 0 8 ostn_95594), (wI g st_index 0 8 osti_95595), (wI g st_before 0 8 ostb_95596)] H := hP
    have hD : va_D A [(wO7 st st_what st_node st_index st_before 7), (wI g st_what 0 8 ostw_95593), (wI g st_node 0 8 ostn_95594), (wI g st_index 0 8 osti_95595), (wI g st_before 0 8 ostb_95596)] := hD
    refine lv_aload_n hx hb dX7_add_13 rfl (lv_at hl 0 rfl) ?_
    refine va_get (D := D) (ci := 7) (v := .ref st_what) (C := RX7) (T := TX7) (N := 5) hx hb hts inlX7 hown hK hP 0 rfl rfl 0 (by decide) (hts (Cond.fieldLink RX7 9 "ChanceRings$Steps" "what" "[I") qw_620) (fun _ h9 => h9) rfl dX7_add_14 ?_
    refine lv_aload_n hx hb dX7_add_17 rfl (lv_at hl 0 rfl) ?_
    refine va_get (D := D) (ci := 7) (v := .int 7) (C := RX7) (T := TX7) (N := 5) hx hb hts inlX7 hown hK hP 0 rfl rfl 4 (by decide) (hts (Cond.fieldLink RX7 24 "ChanceRings$Steps" "count" "I") qw_619) (fun _ h9 => h9) rfl dX7_add_18 ?_
    refine lv_iload_n hx hb dX7_add_21 rfl (lv_at hl 1 rfl) ?_
    refine va_iast hx hb hK hP hD hS 1 0 rfl rfl (tz_in (by decide +kernel)) dX7_add_22 (fun H locs hP hD hS => ?_)
    obtain ⟨f_95605, f_95605_e, h_f_95605, hP, hD⟩ : ∃ FX : Nat → Int32, FX = (upd ostw_95593 (7 : Int32).toNatClampNeg 2) ∧ (∀ j : Nat, 0 ≤ (FX j).toInt ∧ (FX j).toInt ≤ 2) ∧ va_P D vwCl [(wO7 st st_what st_node st_index st_before 7), (wI g st_what 0 8 FX), (wI g st_node 0 8 ostn_95594), (wI g st_index 0 8 osti_95595), (wI g st_before 0 8 ostb_95596)] H ∧ va_D A [(wO7 st st_what st_node st_index st_before 7), (wI g st_what 0 8 FX), (wI g st_node 0 8 ostn_95594), (wI g st_index 0 8 osti_95595), (wI g st_before 0 8 ostb_95596)] := ⟨_, rfl, tr_upd hf_95597 (⟨by decide, by decide⟩ : 0 ≤ (2 : Int32).toInt ∧ (2 : Int32).toInt ≤ 2), hP, hD⟩
    have hP : va_P D vwCl [(wO7 st st_what st_node st_index st_before 7), (wI g st_what 0 8 f_95605), (wI g st_node 0 8 ostn_95594), (wI g st_index 0 8 osti_95595), (wI g st_before 0 8 ostb_95596)] H := hP
    have hD : va_D A [(wO7 st st_what st_node st_index st_before 7), (wI g st_what 0 8 f_95605), (wI g st_node 0 8 ostn_95594), (wI g st_index 0 8 osti_95595), (wI g st_before 0 8 ostb_95596)] := hD
    refine lv_aload_n hx hb dX7_add_23 rfl (lv_at hl 0 rfl) ?_
    refine va_get (D := D) (ci := 7) (v := .ref st_node) (C := RX7) (T := TX7) (N := 5) hx hb hts inlX7 hown hK hP 0 rfl rfl 1 (by decide) (hts (Cond.fieldLink RX7 15 "ChanceRings$Steps" "node" "[I") qw_622) (fun _ h9 => h9) rfl dX7_add_24 ?_
    refine lv_aload_n hx hb dX7_add_27 rfl (lv_at hl 0 rfl) ?_
    refine va_get (D := D) (ci := 7) (v := .int 7) (C := RX7) (T := TX7) (N := 5) hx hb hts inlX7 hown hK hP 0 rfl rfl 4 (by decide) (hts (Cond.fieldLink RX7 24 "ChanceRings$Steps" "count" "I") qw_619) (fun _ h9 => h9) rfl dX7_add_28 ?_
    refine lv_iload_n hx hb dX7_add_31 rfl (lv_at hl 2 rfl) ?_
    refine va_iast hx hb hK hP hD hS 2 0 rfl rfl (tz_in (by decide +kernel)) dX7_add_32 (fun H locs hP hD hS => ?_)
    obtain ⟨f_95606, f_95606_e, h_f_95606, hP, hD⟩ : ∃ FX : Nat → Int32, FX = (upd ostn_95594 (7 : Int32).toNatClampNeg p1) ∧ (∀ j : Nat, 0 ≤ (FX j).toInt ∧ (FX j).toInt ≤ 11) ∧ va_P D vwCl [(wO7 st st_what st_node st_index st_before 7), (wI g st_what 0 8 f_95605), (wI g st_node 0 8 FX), (wI g st_index 0 8 osti_95595), (wI g st_before 0 8 ostb_95596)] H ∧ va_D A [(wO7 st st_what st_node st_index st_before 7), (wI g st_what 0 8 f_95605), (wI g st_node 0 8 FX), (wI g st_index 0 8 osti_95595), (wI g st_before 0 8 ostb_95596)] := ⟨_, rfl, tr_upd hf_95598 (tr_w h_p1 (by decide) (by decide)), hP, hD⟩
    have hP : va_P D vwCl [(wO7 st st_what st_node st_index st_before 7), (wI g st_what 0 8 f_95605), (wI g st_node 0 8 f_95606), (wI g st_index 0 8 osti_95595), (wI g st_before 0 8 ostb_95596)] H := hP
    have hD : va_D A [(wO7 st st_what st_node st_index st_before 7), (wI g st_what 0 8 f_95605), (wI g st_node 0 8 f_95606), (wI g st_index 0 8 osti_95595), (wI g st_before 0 8 ostb_95596)] := hD
    refine lv_aload_n hx hb dX7_add_33 rfl (lv_at hl 0 rfl) ?_
    refine va_get (D := D) (ci := 7) (v := .ref st_index) (C := RX7) (T := TX7) (N := 5) hx hb hts inlX7 hown hK hP 0 rfl rfl 2 (by decide) (hts (Cond.fieldLink RX7 18 "ChanceRings$Steps" "index" "[I") qw_623) (fun _ h9 => h9) rfl dX7_add_34 ?_
    refine lv_aload_n hx hb dX7_add_37 rfl (lv_at hl 0 rfl) ?_
    refine va_get (D := D) (ci := 7) (v := .int 7) (C := RX7) (T := TX7) (N := 5) hx hb hts inlX7 hown hK hP 0 rfl rfl 4 (by decide) (hts (Cond.fieldLink RX7 24 "ChanceRings$Steps" "count" "I") qw_619) (fun _ h9 => h9) rfl dX7_add_38 ?_
    refine lv_iload_n hx hb dX7_add_41 rfl (lv_at hl 3 rfl) ?_
    refine va_iast hx hb hK hP hD hS 3 0 rfl rfl (tz_in (by decide +kernel)) dX7_add_42 (fun H locs hP hD hS => ?_)
    obtain ⟨f_95607, f_95607_e, h_f_95607, hP, hD⟩ : ∃ FX : Nat → Int32, FX = (upd osti_95595 (7 : Int32).toNatClampNeg p2) ∧ (∀ j : Nat, 0 ≤ (FX j).toInt ∧ (FX j).toInt ≤ 2) ∧ va_P D vwCl [(wO7 st st_what st_node st_index st_before 7), (wI g st_what 0 8 f_95605), (wI g st_node 0 8 f_95606), (wI g st_index 0 8 FX), (wI g st_before 0 8 ostb_95596)] H ∧ va_D A [(wO7 st st_what st_node st_index st_before 7), (wI g st_what 0 8 f_95605), (wI g st_node 0 8 f_95606), (wI g st_index 0 8 FX), (wI g st_before 0 8 ostb_95596)] := ⟨_, rfl, tr_upd hf_95599 (tr_w h_p2 (by decide) (by decide)), hP, hD⟩
    have hP : va_P D vwCl [(wO7 st st_what st_node st_index st_before 7), (wI g st_what 0 8 f_95605), (wI g st_node 0 8 f_95606), (wI g st_index 0 8 f_95607), (wI g st_before 0 8 ostb_95596)] H := hP
    have hD : va_D A [(wO7 st st_what st_node st_index st_before 7), (wI g st_what 0 8 f_95605), (wI g st_node 0 8 f_95606), (wI g st_index 0 8 f_95607), (wI g st_before 0 8 ostb_95596)] := hD
    refine lv_aload_n hx hb dX7_add_43 rfl (lv_at hl 0 rfl) ?_
    refine va_get (D := D) (ci := 7) (v := .ref st_before) (C := RX7) (T := TX7) (N := 5) hx hb hts inlX7 hown hK hP 0 rfl rfl 3 (by decide) (hts (Cond.fieldLink RX7 21 "ChanceRings$Steps" "before" "[I") qw_624) (fun _ h9 => h9) rfl dX7_add_44 ?_
    refine lv_aload_n hx hb dX7_add_47 rfl (lv_at hl 0 rfl) ?_
    refine va_get (D := D) (ci := 7) (v := .int 7) (C := RX7) (T := TX7) (N := 5) hx hb hts inlX7 hown hK hP 0 rfl rfl 4 (by decide) (hts (Cond.fieldLink RX7 24 "ChanceRings$Steps" "count" "I") qw_619) (fun _ h9 => h9) rfl dX7_add_48 ?_
    refine lv_iload hx hb dX7_add_51 (lv_at hl 4 rfl) ?_
    refine va_iast hx hb hK hP hD hS 4 0 rfl rfl (tz_in (by decide +kernel)) dX7_add_53 (fun H locs hP hD hS => ?_)
    obtain ⟨f_95608, f_95608_e, hP, hD⟩ : ∃ FX : Nat → Int32, FX = (upd ostb_95596 (7 : Int32).toNatClampNeg p3) ∧ va_P D vwCl [(wO7 st st_what st_node st_index st_before 7), (wI g st_what 0 8 f_95605), (wI g st_node 0 8 f_95606), (wI g st_index 0 8 f_95607), (wI g st_before 0 8 FX)] H ∧ va_D A [(wO7 st st_what st_node st_index st_before 7), (wI g st_what 0 8 f_95605), (wI g st_node 0 8 f_95606), (wI g st_index 0 8 f_95607), (wI g st_before 0 8 FX)] := ⟨_, rfl, hP, hD⟩
    have hP : va_P D vwCl [(wO7 st st_what st_node st_index st_before 7), (wI g st_what 0 8 f_95605), (wI g st_node 0 8 f_95606), (wI g st_index 0 8 f_95607), (wI g st_before 0 8 f_95608)] H := hP
    have hD : va_D A [(wO7 st st_what st_node st_index st_before 7), (wI g st_what 0 8 f_95605), (wI g st_node 0 8 f_95606), (wI g st_index 0 8 f_95607), (wI g st_before 0 8 f_95608)] := hD
    refine lv_aload_n hx hb dX7_add_54 rfl (lv_at hl 0 rfl) ?_
    refine lv_dup hx hb dX7_add_55 rfl ?_
    refine va_get (D := D) (ci := 7) (v := .int 7) (C := RX7) (T := TX7) (N := 5) hx hb hts inlX7 hown hK hP 0 rfl rfl 4 (by decide) (hts (Cond.fieldLink RX7 24 "ChanceRings$Steps" "count" "I") qw_619) (fun _ h9 => h9) rfl dX7_add_56 ?_
    refine lv_iconst (v := 1) hx hb dX7_add_59 (by decide) ?_
    refine lv_iadd hx hb dX7_add_60 ?_
    refine tz_i (y := 8) (by decide +kernel) ?_
    refine va_put (D := D) (ci := 7) (v := .int 8) (ty := .int) (C := RX7) (T := TX7) (N := 5) hx hb hts inlX7 tyX7 tyX7_ok nmX7 hown hK hP hD hS 0 rfl rfl 4 (by decide) (hts (Cond.fieldLink RX7 24 "ChanceRings$Steps" "count" "I") qw_619) (fun _ h9 => h9) rfl (by decide +kernel) rfl rfl (Nat.le_of_ble_eq_true rfl) dX7_add_61 (fun H locs hP hD hS => ?_)
    have hP : va_P D vwCl [(wO7 st st_what st_node st_index st_before 8), (wI g st_what 0 8 f_95605), (wI g st_node 0 8 f_95606), (wI g st_index 0 8 f_95607), (wI g st_before 0 8 f_95608)] H := hP
    have hD : va_D A [(wO7 st st_what st_node st_index st_before 8), (wI g st_what 0 8 f_95605), (wI g st_node 0 8 f_95606), (wI g st_index 0 8 f_95607), (wI g st_before 0 8 f_95608)] := hD
    have hP9 := hP.sub (ws' := [(wO7 st st_what st_node st_index st_before 8), (wI g st_what 0 8 f_95605), (wI g st_node 0 8 f_95606), (wI g st_index 0 8 f_95607), (wI g st_before 0 8 f_95608)]) [0, 1, 2, 3, 4] rfl
    have hD9 := hD.sub (ws' := [(wO7 st st_what st_node st_index st_before 8), (wI g st_what 0 8 f_95605), (wI g st_node 0 8 f_95606), (wI g st_index 0 8 f_95607), (wI g st_before 0 8 f_95608)]) [0, 1, 2, 3, 4] (by decide) rfl
    exact W.vret hx hb hr (fun t ht hW => ⟨⟨(), rfl, trivial, 8, f_95605, f_95606, f_95607, f_95608, (⟨by decide, by decide⟩ : 0 ≤ (8 : Int32).toInt ∧ (8 : Int32).toInt ≤ 8), (tr_wa h_f_95605 (by decide) (by decide)), (tr_wa h_f_95606 (by decide) (by decide)), (tr_wa h_f_95607 (by decide) (by decide)), (by rw [f_95605_e, f_95608_e]; exact tr_relupd hf_95600 (fun h => absurd h (by decide))), (pus_b hf_95601 f_95605_e (by decide) (by have z_8 := tk_8; have z_7 := tk_7; (first | (clear h_p1 h_p2 h_stc c_95584_i h_95586; omega) | omega)) (by have z_8 := tk_8; have z_7 := tk_7; (first | (clear h_p1 h_p2 h_stc c_95584_i h_95586; omega) | omega))), (pus_b hf_95602 f_95606_e (by decide) (by have z_8 := tk_8; have z_7 := tk_7; (first | (clear h_p1 h_p2 h_stc c_95584_i h_95586; omega) | omega)) (by have z_8 := tk_8; have z_7 := tk_7; (first | (clear h_p1 h_p2 h_stc c_95584_i h_95586; omega) | omega))), (pus_b hf_95603 f_95607_e (by decide) (by have z_8 := tk_8; have z_7 := tk_7; (first | (clear h_p1 h_p2 h_stc c_95584_i h_95586; omega) | omega)) (by have z_8 := tk_8; have z_7 := tk_7; (first | (clear h_p1 h_p2 h_stc c_95584_i h_95586; omega) | omega))), (pus_b hf_95604 f_95608_e (by decide) (by have z_8 := tk_8; have z_7 := tk_7; (first | (clear h_p1 h_p2 h_stc c_95584_i h_95586; omega) | omega)) (by have z_8 := tk_8; have z_7 := tk_7; (first | (clear h_p1 h_p2 h_stc c_95584_i h_95586; omega) | omega))), by rw [ht]; exact hP9, hD9⟩, hS.F ht⟩) hS.2.2 dX7_add_64
set_option maxHeartbeats 4000000 in
set_option maxRecDepth 100000 in
theorem c_X7_takeBack (l : Launch) (D : va_G) (g : Nat → ClassId) (sz : Nat) (st : Nat) (n : Nat) (st_what : Nat) (st_node : Nat) (st_index : Nat) (st_before : Nat) (stc : Int32) (stw : Nat → Int32) (stn : Nat → Int32) (sti : Nat → Int32) (stb : Nat → Int32) (n_nodes : Int32) (n_kind : Nat) (n_pay : Nat) (n_name : Nat) (n_ways : Nat) (n_held : Nat) (n_targets : Nat) (n_weights : Nat) (n_fpay : Nat → Int32) (n_fheld : Nat → Int32) (n_fweights : Nat → Int32) (h_stc : 0 ≤ (stc : Int32).toInt ∧ (stc : Int32).toInt ≤ 8) (h_stw : ∀ j : Nat, 0 ≤ (stw j).toInt ∧ (stw j).toInt ≤ 2) (h_stn : ∀ j : Nat, 0 ≤ (stn j).toInt ∧ (stn j).toInt ≤ 11) (h_sti : ∀ j : Nat, 0 ≤ (sti j).toInt ∧ (sti j).toInt ≤ 2) (h_n_nodes : 0 ≤ (n_nodes : Int32).toInt ∧ (n_nodes : Int32).toInt ≤ 12) (h_n_fheld : ∀ j : Nat, (-1) ≤ (n_fheld j).toInt ∧ (n_fheld j).toInt ≤ 2) (hrel : ∀ j : Nat, stw j = 0 → -1 ≤ (stb j).toInt ∧ (stb j).toInt ≤ 2) : Met l yX7_takeBack (.code yX7_takeBack cX7_takeBack 3 none :: wsL_law) ({ frames := 1, cells := 0, slots := 0, locals := 23 }) (va_Pc [.ref st, .ref n] (fun U => U.heap.size = sz ∧ va_P D vwCl [(wO7 st st_what st_node st_index st_before stc), (wI g st_what 0 8 stw), (wI g st_node 0 8 stn), (wI g st_index 0 8 sti), (wI g st_before 0 8 stb), (wO2 n n_nodes n_kind n_pay n_name n_ways n_held n_targets n_weights), (wI g n_pay 0 12 n_fpay), (wI g n_held 0 12 n_fheld), (wI g n_weights 0 36 n_fweights)] U.heap ∧ va_K D vwCl (TY g) U ∧ va_D (fun _ => True) [(wO7 st st_what st_node st_index st_before stc), (wI g st_what 0 8 stw), (wI g st_node 0 8 stn), (wI g st_index 0 8 sti), (wI g st_before 0 8 stb), (wO2 n n_nodes n_kind n_pay n_name n_ways n_held n_targets n_weights), (wI g n_pay 0 12 n_fpay), (wI g n_held 0 12 n_fheld), (wI g n_weights 0 36 n_fweights)])) (va_Qv (fun (_ : Unit) => True) (fun _ t => ∃ ostc : Int32, ∃ n_gpay : Nat → Int32, ∃ n_gheld : Nat → Int32, ∃ n_gweights : Nat → Int32, (0 ≤ (ostc : Int32).toInt ∧ (ostc : Int32).toInt ≤ 8) ∧ (∀ j : Nat, (-1) ≤ (n_gheld j).toInt ∧ (n_gheld j).toInt ≤ 2) ∧ (0 < (stc : Int32).toInt → (ostc : Int32).toInt = (stc : Int32).toInt - 1 ∧ ∀ (k9 n9 w9 t9 : Nat → Int32), SetC (absC n_nodes k9 n_fpay n9 w9 n_fheld t9 n_fweights) (absC n_nodes k9 n_gpay n9 w9 n_gheld t9 n_gweights) (cellOf (stw ((stc : Int32).toInt.toNat - 1)).toInt (stn ((stc : Int32).toInt.toNat - 1)).toInt (sti ((stc : Int32).toInt.toNat - 1)).toInt) (stb ((stc : Int32).toInt.toNat - 1)).toInt) ∧ va_P D vwCl [(wO7 st st_what st_node st_index st_before ostc), (wI g st_what 0 8 stw), (wI g st_node 0 8 stn), (wI g st_index 0 8 sti), (wI g st_before 0 8 stb), (wO2 n n_nodes n_kind n_pay n_name n_ways n_held n_targets n_weights), (wI g n_pay 0 12 n_gpay), (wI g n_held 0 12 n_gheld), (wI g n_weights 0 36 n_gweights)] t.heap ∧ va_D (va_A [(wO7 st st_what st_node st_index st_before stc), (wI g st_what 0 8 stw), (wI g st_node 0 8 stn), (wI g st_index 0 8 sti), (wI g st_before 0 8 stb), (wO2 n n_nodes n_kind n_pay n_name n_ways n_held n_targets n_weights), (wI g n_pay 0 12 n_fpay), (wI g n_held 0 12 n_fheld), (wI g n_weights 0 36 n_fweights)] sz) [(wO7 st st_what st_node st_index st_before ostc), (wI g st_what 0 8 stw), (wI g st_node 0 8 stn), (wI g st_index 0 8 sti), (wI g st_before 0 8 stb), (wO2 n n_nodes n_kind n_pay n_name n_ways n_held n_targets n_weights), (wI g n_pay 0 12 n_gpay), (wI g n_held 0 12 n_gheld), (wI g n_weights 0 36 n_gweights)]) (va_A [(wO7 st st_what st_node st_index st_before stc), (wI g st_what 0 8 stw), (wI g st_node 0 8 stn), (wI g st_index 0 8 sti), (wI g st_before 0 8 stb), (wO2 n n_nodes n_kind n_pay n_name n_ways n_held n_targets n_weights), (wI g n_pay 0 12 n_fpay), (wI g n_held 0 12 n_fheld), (wI g n_weights 0 36 n_fweights)] sz)) 0 0 (va_A [(wO7 st st_what st_node st_index st_before stc), (wI g st_what 0 8 stw), (wI g st_node 0 8 stn), (wI g st_index 0 8 sti), (wI g st_before 0 8 stb), (wO2 n n_nodes n_kind n_pay n_name n_ways n_held n_targets n_weights), (wI g n_pay 0 12 n_fpay), (wI g n_held 0 12 n_fheld), (wI g n_weights 0 36 n_fweights)] sz) := by
  refine Met.ofW (cc := cX7_takeBack) (maxL := 3) (ret := none) (by decide) rfl ?_
  intro p e s m args below meth c s₁ B hml hv
  obtain ⟨ha, hsz, hP, hK, hD0⟩ := hv
  have hx := B.exec
  have hb := B.bytes
  have hr := B.returns
  have hts0 := atoms_spec (ws := (.code yX7_takeBack cX7_takeBack 3 none :: wsL_law)) B.pre
  have hts : ∀ w ∈ wsL_law, w.before args s = true := fun w h => hts0 w (List.mem_cons_of_mem _ h)
  have hown : s.vm.findClass RX7 = some m.cls := findClass_of_methodNamed B.named
  have hlocks := B.notSynchronized
  subst hsz
  have hD := hD0.self (sz := s.heap.size)
  generalize hAe : va_A [(wO7 st st_what st_node st_index st_before stc), (wI g st_what 0 8 stw), (wI g st_node 0 8 stn), (wI g st_index 0 8 sti), (wI g st_before 0 8 stb), (wO2 n n_nodes n_kind n_pay n_name n_ways n_held n_targets n_weights), (wI g n_pay 0 12 n_fpay), (wI g n_held 0 12 n_fheld), (wI g n_weights 0 36 n_fweights)] s.heap.size = A at hD ⊢
  have hA : ∀ q : Nat, s.heap.size ≤ q → A q := fun q h => by rw [← hAe]; exact Or.inr h
  have hS : va_S A s.heap s.heap [] := va_S.rf
  have hP : va_P D vwCl [(wO7 st st_what st_node st_index st_before stc), (wI g st_what 0 8 stw), (wI g st_node 0 8 stn), (wI g st_index 0 8 sti), (wI g st_before 0 8 stb), (wO2 n n_nodes n_kind n_pay n_name n_ways n_held n_targets n_weights), (wI g n_pay 0 12 n_fpay), (wI g n_held 0 12 n_fheld), (wI g n_weights 0 36 n_fweights)] s.heap := hP
  refine W.eq (g2 := entryFrame m ([.ref st, .ref n] : List Value).toArray 3) (by rw [ha]) ?_
  have hl := lv_entry ([.ref st, .ref n]) (n := 3) (Nat.le_of_ble_eq_true rfl)
  rw [lg_entry_eq]
  generalize (lg_sl ([.ref st, .ref n]) ++ List.replicate (3 - (lg_sl ([.ref st, .ref n])).length) Slot.unset).toArray = ls at hl ⊢
  have hl : lv_has ls 3 [(0, .ref st), (1, .ref n)] := hl
  refine lv_aload_n hx hb dX7_takeBack_0 rfl (lv_at hl 0 rfl) ?_
  refine va_get (D := D) (ci := 7) (v := .int stc) (C := RX7) (T := TX7) (N := 5) hx hb hts inlX7 hown hK hP 0 rfl rfl 4 (by decide) (hts (Cond.fieldLink RX7 24 "ChanceRings$Steps" "count" "I") qw_619) (fun _ h9 => h9) rfl dX7_takeBack_1 ?_
  refine lv_if_gt (tgt := 8) hx hb dX7_takeBack_4 (by decide) (fun c_95609 => ?_) (fun c_95609 => ?_)
  · skip
    have kk_0 := tk_0
    have c_95609_i := Int32.lt_iff_toInt_lt.mp c_95609
    have h_95610 : 1 ≤ (stc : Int32).toInt ∧ (stc : Int32).toInt ≤ 8 := nr_lt_r (⟨by decide, by decide⟩ : 0 ≤ (0 : Int32).toInt ∧ (0 : Int32).toInt ≤ 0) h_stc c_95609_i (by decide) (by decide)
    refine lv_aload_n hx hb dX7_takeBack_8 rfl (lv_at hl 0 rfl) ?_
    refine lv_dup hx hb dX7_takeBack_9 rfl ?_
    refine va_get (D := D) (ci := 7) (v := .int stc) (C := RX7) (T := TX7) (N := 5) hx hb hts inlX7 hown hK hP 0 rfl rfl 4 (by decide) (hts (Cond.fieldLink RX7 24 "ChanceRings$Steps" "count" "I") qw_619) (fun _ h9 => h9) rfl dX7_takeBack_10 ?_
    refine lv_iconst (v := 1) hx hb dX7_takeBack_13 (by decide) ?_
    refine lv_isub hx hb dX7_takeBack_14 ?_
    refine lv_topi (fun v_95612 v_95612_e => ?_)
    have h_v_95612 : 0 ≤ (v_95612 : Int32).toInt ∧ (v_95612 : Int32).toInt ≤ 7 := by rw [v_95612_e]; exact tr_sub h_95610 (⟨by decide, by decide⟩ : 1 ≤ (1 : Int32).toInt ∧ (1 : Int32).toInt ≤ 1) (by decide) (by decide) (by decide) (by decide)
    have q_v_95612 : v_95612.toInt = stc.toInt - 1 := by rw [v_95612_e]; exact tr_subE h_95610 (⟨by decide, by decide⟩ : 1 ≤ (1 : Int32).toInt ∧ (1 : Int32).toInt ≤ 1) (by decide) (by decide)
    refine va_put (D := D) (ci := 7) (v := .int v_95612) (ty := .int) (C := RX7) (T := TX7) (N := 5) hx hb hts inlX7 tyX7 tyX7_ok nmX7 hown hK hP hD hS 0 rfl rfl 4 (by decide) (hts (Cond.fieldLink RX7 24 "ChanceRings$Steps" "count" "I") qw_619) (fun _ h9 => h9) rfl (by decide +kernel) rfl rfl (Nat.le_of_ble_eq_true rfl) dX7_takeBack_15 (fun H locs hP hD hS => ?_)
    have hP : va_P D vwCl [(wO7 st st_what st_node st_index st_before v_95612), (wI g st_what 0 8 stw), (wI g st_node 0 8 stn), (wI g st_index 0 8 sti), (wI g st_before 0 8 stb), (wO2 n n_nodes n_kind n_pay n_name n_ways n_held n_targets n_weights), (wI g n_pay 0 12 n_fpay), (wI g n_held 0 12 n_fheld), (wI g n_weights 0 36 n_fweights)] H := hP
    have hD : va_D A [(wO7 st st_what st_node st_index st_before v_95612), (wI g st_what 0 8 stw), (wI g st_node 0 8 stn), (wI g st_index 0 8 sti), (wI g st_before 0 8 stb), (wO2 n n_nodes n_kind n_pay n_name n_ways n_held n_targets n_weights), (wI g n_pay 0 12 n_fpay), (wI g n_held 0 12 n_fheld), (wI g n_weights 0 36 n_fweights)] := hD
    refine lv_aload_n hx hb dX7_takeBack_18 rfl (lv_at hl 0 rfl) ?_
    refine va_get (D := D) (ci := 7) (v := .ref st_node) (C := RX7) (T := TX7) (N := 5) hx hb hts inlX7 hown hK hP 0 rfl rfl 1 (by decide) (hts (Cond.fieldLink RX7 15 "ChanceRings$Steps" "node" "[I") qw_622) (fun _ h9 => h9) rfl dX7_takeBack_19 ?_
    refine lv_aload_n hx hb dX7_takeBack_22 rfl (lv_at hl 0 rfl) ?_
    refine va_get (D := D) (ci := 7) (v := .int v_95612) (C := RX7) (T := TX7) (N := 5) hx hb hts inlX7 hown hK hP 0 rfl rfl 4 (by decide) (hts (Cond.fieldLink RX7 24 "ChanceRings$Steps" "count" "I") qw_619) (fun _ h9 => h9) rfl dX7_takeBack_23 ?_
    refine va_iald hx hb hK hP 2 0 rfl rfl (tr_in h_v_95612 (by decide) (by decide)) dX7_takeBack_26 ?_
    refine lv_topi (fun v_95613 v_95613_e => ?_)
    have h_v_95613 : 0 ≤ (v_95613 : Int32).toInt ∧ (v_95613 : Int32).toInt ≤ 11 := by rw [v_95613_e]; exact h_stn _
    have g_v_95613 : v_95613 = stn (v_95612.toInt.toNat) := v_95613_e.trans (congrArg stn rfl)
    have gi_v_95613 := congrArg Int32.toInt g_v_95613
    refine lv_istore_n (lv' := [(2, .int v_95613), (0, .ref st), (1, .ref n)]) hx hb dX7_takeBack_27 rfl hl (by decide) rfl (fun ls hl => ?_)
    refine lv_aload_n hx hb dX7_takeBack_28 rfl (lv_at hl 1 rfl) ?_
    refine va_get (D := D) (ci := 7) (v := .ref st_what) (C := RX7) (T := TX7) (N := 5) hx hb hts inlX7 hown hK hP 0 rfl rfl 0 (by decide) (hts (Cond.fieldLink RX7 9 "ChanceRings$Steps" "what" "[I") qw_620) (fun _ h9 => h9) rfl dX7_takeBack_29 ?_
    refine lv_aload_n hx hb dX7_takeBack_32 rfl (lv_at hl 1 rfl) ?_
    refine va_get (D := D) (ci := 7) (v := .int v_95612) (C := RX7) (T := TX7) (N := 5) hx hb hts inlX7 hown hK hP 0 rfl rfl 4 (by decide) (hts (Cond.fieldLink RX7 24 "ChanceRings$Steps" "count" "I") qw_619) (fun _ h9 => h9) rfl dX7_takeBack_33 ?_
    refine va_iald hx hb hK hP 1 0 rfl rfl (tr_in h_v_95612 (by decide) (by decide)) dX7_takeBack_36 ?_
    refine lv_topi (fun v_95614 v_95614_e => ?_)
    have h_v_95614 : 0 ≤ (v_95614 : Int32).toInt ∧ (v_95614 : Int32).toInt ≤ 2 := by rw [v_95614_e]; exact h_stw _
    have g_v_95614 : v_95614 = stw (v_95612.toInt.toNat) := v_95614_e.trans (congrArg stw rfl)
    have gi_v_95614 := congrArg Int32.toInt g_v_95614
    by_cases e_95615 : v_95614 = 0
    · skip
      have h_95616 : 0 ≤ (v_95614 : Int32).toInt ∧ (v_95614 : Int32).toInt ≤ 0 := by rw [e_95615]; exact ⟨by decide, by decide⟩
      refine lv_lookup (off := 27) (tgt := 64) hx hb dX7_takeBack_37 (by decide) (by rw [e_95615]; decide) (by decide) ?_
      refine lv_aload_n hx hb dX7_takeBack_64 rfl (lv_at hl 2 rfl) ?_
      refine va_get (D := D) (ci := 2) (v := .ref n_held) (C := RX2) (T := TX2) (N := 8) hx hb hts inlX2 hown hK hP 5 rfl rfl 5 (by decide) (hts (Cond.fieldLink RX7 37 "ChanceRings$Net" "held" "[I") qw_630) (fun _ h9 => h9) rfl dX7_takeBack_65 ?_
      refine lv_iload_n hx hb dX7_takeBack_68 rfl (lv_at hl 0 rfl) ?_
      refine lv_aload_n hx hb dX7_takeBack_69 rfl (lv_at hl 1 rfl) ?_
      refine va_get (D := D) (ci := 7) (v := .ref st_before) (C := RX7) (T := TX7) (N := 5) hx hb hts inlX7 hown hK hP 0 rfl rfl 3 (by decide) (hts (Cond.fieldLink RX7 21 "ChanceRings$Steps" "before" "[I") qw_624) (fun _ h9 => h9) rfl dX7_takeBack_70 ?_
      refine lv_aload_n hx hb dX7_takeBack_73 rfl (lv_at hl 1 rfl) ?_
      refine va_get (D := D) (ci := 7) (v := .int v_95612) (C := RX7) (T := TX7) (N := 5) hx hb hts inlX7 hown hK hP 0 rfl rfl 4 (by decide) (hts (Cond.fieldLink RX7 24 "ChanceRings$Steps" "count" "I") qw_619) (fun _ h9 => h9) rfl dX7_takeBack_74 ?_
      refine va_iald hx hb hK hP 4 0 rfl rfl (tr_in h_v_95612 (by decide) (by decide)) dX7_takeBack_77 ?_
      refine lv_topi (fun v_95617 v_95617_e => ?_)
      have h_v_95617 : (-1) ≤ (v_95617 : Int32).toInt ∧ (v_95617 : Int32).toInt ≤ 2 := by rw [v_95617_e]; exact hrel _ (v_95614_e.symm.trans e_95615)
      have g_v_95617 : v_95617 = stb (v_95612.toInt.toNat) := v_95617_e.trans (congrArg stb rfl)
      have gi_v_95617 := congrArg Int32.toInt g_v_95617
      refine va_iast hx hb hK hP hD hS 7 0 rfl rfl (tr_in h_v_95613 (by decide) (by decide)) dX7_takeBack_78 (fun H locs hP hD hS => ?_)
      obtain ⟨f_95618, f_95618_e, h_f_95618, hP, hD⟩ : ∃ FX : Nat → Int32, FX = (upd n_fheld (v_95613 : Int32).toNatClampNeg v_95617) ∧ (∀ j : Nat, (-1) ≤ (FX j).toInt ∧ (FX j).toInt ≤ 2) ∧ va_P D vwCl [(wO7 st st_what st_node st_index st_before v_95612), (wI g st_what 0 8 stw), (wI g st_node 0 8 stn), (wI g st_index 0 8 sti), (wI g st_before 0 8 stb), (wO2 n n_nodes n_kind n_pay n_name n_ways n_held n_targets n_weights), (wI g n_pay 0 12 n_fpay), (wI g n_held 0 12 FX), (wI g n_weights 0 36 n_fweights)] H ∧ va_D A [(wO7 st st_what st_node st_index st_before v_95612), (wI g st_what 0 8 stw), (wI g st_node 0 8 stn), (wI g st_index 0 8 sti), (wI g st_before 0 8 stb), (wO2 n n_nodes n_kind n_pay n_name n_ways n_held n_targets n_weights), (wI g n_pay 0 12 n_fpay), (wI g n_held 0 12 FX), (wI g n_weights 0 36 n_fweights)] := ⟨_, rfl, tr_upd h_n_fheld (tr_w h_v_95617 (by decide) (by decide)), hP, hD⟩
      have hP : va_P D vwCl [(wO7 st st_what st_node st_index st_before v_95612), (wI g st_what 0 8 stw), (wI g st_node 0 8 stn), (wI g st_index 0 8 sti), (wI g st_before 0 8 stb), (wO2 n n_nodes n_kind n_pay n_name n_ways n_held n_targets n_weights), (wI g n_pay 0 12 n_fpay), (wI g n_held 0 12 f_95618), (wI g n_weights 0 36 n_fweights)] H := hP
      have hD : va_D A [(wO7 st st_what st_node st_index st_before v_95612), (wI g st_what 0 8 stw), (wI g st_node 0 8 stn), (wI g st_index 0 8 sti), (wI g st_before 0 8 stb), (wO2 n n_nodes n_kind n_pay n_name n_ways n_held n_targets n_weights), (wI g n_pay 0 12 n_fpay), (wI g n_held 0 12 f_95618), (wI g n_weights 0 36 n_fweights)] := hD
      refine lv_goto (tgt := 123) hx hb dX7_takeBack_79 (by decide) ?_
      have hP9 := hP.sub (ws' := [(wO7 st st_what st_node st_index st_before v_95612), (wI g st_what 0 8 stw), (wI g st_node 0 8 stn), (wI g st_index 0 8 sti), (wI g st_before 0 8 stb), (wO2 n n_nodes n_kind n_pay n_name n_ways n_held n_targets n_weights), (wI g n_pay 0 12 n_fpay), (wI g n_held 0 12 f_95618), (wI g n_weights 0 36 n_fweights)]) [0, 1, 2, 3, 4, 5, 6, 7, 8] rfl
      have hD9 := hD.sub (ws' := [(wO7 st st_what st_node st_index st_before v_95612), (wI g st_what 0 8 stw), (wI g st_node 0 8 stn), (wI g st_index 0 8 sti), (wI g st_before 0 8 stb), (wO2 n n_nodes n_kind n_pay n_name n_ways n_held n_targets n_weights), (wI g n_pay 0 12 n_fpay), (wI g n_held 0 12 f_95618), (wI g n_weights 0 36 n_fweights)]) [0, 1, 2, 3, 4, 5, 6, 7, 8] (by decide) rfl
      exact W.vret hx hb hr (fun t ht hW => ⟨⟨(), rfl, trivial, v_95612, n_fpay, f_95618, n_fweights, (tr_w h_v_95612 (by decide) (by decide)), (tr_wa h_f_95618 (by decide) (by decide)), (fun _ => ⟨by omega, fun k9 n9 w9 t9 => by rw [(by omega : ((stc : Int32).toInt.toNat - 1) = v_95612.toInt.toNat), ← gi_v_95614, ← gi_v_95613, ← gi_v_95617]; rw [cell_h (by have z_0 := tk_0; omega), f_95618_e]; exact absC_setH (by show Int.toNat _ < 12; omega)⟩), by rw [ht]; exact hP9, hD9⟩, hS.F ht⟩) hS.2.2 dX7_takeBack_123
    · have e_95615_n : ¬ (v_95614 : Int32).toInt = 0 := fun q => e_95615 (Int32.toInt_inj.mp (q.trans (by decide)))
      by_cases e_95619 : v_95614 = 1
      · skip
        have h_95620 : 1 ≤ (v_95614 : Int32).toInt ∧ (v_95614 : Int32).toInt ≤ 1 := by rw [e_95619]; exact ⟨by decide, by decide⟩
        refine lv_lookup (off := 45) (tgt := 82) hx hb dX7_takeBack_37 (by decide) (by rw [e_95619]; decide) (by decide) ?_
        refine lv_aload_n hx hb dX7_takeBack_82 rfl (lv_at hl 2 rfl) ?_
        refine lv_iload_n hx hb dX7_takeBack_83 rfl (lv_at hl 0 rfl) ?_
        refine lv_aload_n hx hb dX7_takeBack_84 rfl (lv_at hl 1 rfl) ?_
        refine va_get (D := D) (ci := 7) (v := .ref st_index) (C := RX7) (T := TX7) (N := 5) hx hb hts inlX7 hown hK hP 0 rfl rfl 2 (by decide) (hts (Cond.fieldLink RX7 18 "ChanceRings$Steps" "index" "[I") qw_623) (fun _ h9 => h9) rfl dX7_takeBack_85 ?_
        refine lv_aload_n hx hb dX7_takeBack_88 rfl (lv_at hl 1 rfl) ?_
        refine va_get (D := D) (ci := 7) (v := .int v_95612) (C := RX7) (T := TX7) (N := 5) hx hb hts inlX7 hown hK hP 0 rfl rfl 4 (by decide) (hts (Cond.fieldLink RX7 24 "ChanceRings$Steps" "count" "I") qw_619) (fun _ h9 => h9) rfl dX7_takeBack_89 ?_
        refine va_iald hx hb hK hP 3 0 rfl rfl (tr_in h_v_95612 (by decide) (by decide)) dX7_takeBack_92 ?_
        refine lv_topi (fun v_95621 v_95621_e => ?_)
        have h_v_95621 : 0 ≤ (v_95621 : Int32).toInt ∧ (v_95621 : Int32).toInt ≤ 2 := by rw [v_95621_e]; exact h_sti _
        have g_v_95621 : v_95621 = sti (v_95612.toInt.toNat) := v_95621_e.trans (congrArg sti rfl)
        have gi_v_95621 := congrArg Int32.toInt g_v_95621
        refine lv_aload_n hx hb dX7_takeBack_93 rfl (lv_at hl 1 rfl) ?_
        refine va_get (D := D) (ci := 7) (v := .ref st_before) (C := RX7) (T := TX7) (N := 5) hx hb hts inlX7 hown hK hP 0 rfl rfl 3 (by decide) (hts (Cond.fieldLink RX7 21 "ChanceRings$Steps" "before" "[I") qw_624) (fun _ h9 => h9) rfl dX7_takeBack_94 ?_
        refine lv_aload_n hx hb dX7_takeBack_97 rfl (lv_at hl 1 rfl) ?_
        refine va_get (D := D) (ci := 7) (v := .int v_95612) (C := RX7) (T := TX7) (N := 5) hx hb hts inlX7 hown hK hP 0 rfl rfl 4 (by decide) (hts (Cond.fieldLink RX7 24 "ChanceRings$Steps" "count" "I") qw_619) (fun _ h9 => h9) rfl dX7_takeBack_98 ?_
        refine va_iald hx hb hK hP 4 0 rfl rfl (tr_in h_v_95612 (by decide) (by decide)) dX7_takeBack_101 ?_
        refine lv_topi (fun v_95622 v_95622_e => ?_)
        have g_v_95622 : v_95622 = stb (v_95612.toInt.toNat) := v_95622_e.trans (congrArg stb rfl)
        have gi_v_95622 := congrArg Int32.toInt g_v_95622
        have hPc := hP.sub (ws' := [(wO2 n n_nodes n_kind n_pay n_name n_ways n_held n_targets n_weights), (wI g n_weights 0 36 n_fweights)]) [5, 8] rfl
        have hDc := hD.sub (ws' := [(wO2 n n_nodes n_kind n_pay n_name n_ways n_held n_targets n_weights), (wI g n_weights 0 36 n_fweights)]) [5, 8] (by decide) rfl
        have hFc := va_free (wc := [(wO2 n n_nodes n_kind n_pay n_name n_ways n_held n_targets n_weights), (wI g n_weights 0 36 n_fweights)]) hD hS hA [5, 8] rfl
        refine va_callv (va_runV (As := [.int v_95613, .int v_95621, .int v_95622]) (rest := []) ⟨hx, hb, hml, hown, hts⟩ (c_X2_setWeightN l D g H.size n v_95613 v_95621 v_95622 n_nodes n_kind n_pay n_name n_ways n_held n_targets n_weights n_fweights (tr_w h_v_95613 (by decide) (by decide)) (tr_w h_v_95621 (by decide) (by decide)) (tr_w h_n_nodes (by decide) (by decide))) (cwV 3 hts (tz_gV qw_631 qw_632 qw_633 qw_322 qw_634) rfl rfl rfl (by decide +kernel) ⟨Nat.le_of_ble_eq_true rfl, Nat.le_of_ble_eq_true rfl⟩) ⟨tz_blQ, va_recv hK hPc (ci := 2) (q0 := 0) rfl rfl, tz_preQ hPc hK hDc⟩ rfl rfl hl.1 rfl (lv_room (Nat.le_of_ble_eq_true rfl)) dX7_takeBack_102 ⟨Nat.le_of_ble_eq_true rfl, Nat.le_of_ble_eq_true rfl⟩) hS (fun q _ h => hFc q h) hFc (fun u t H1 locs ht hvm hw hB hz1 hk1 hS => ?_)
        obtain ⟨n_gweights_95624, hf_95625, hP1, hD1⟩ := hB
        rw [ht] at hP1
        obtain ⟨hP, hD⟩ := va_join (wr := [(wO7 st st_what st_node st_index st_before v_95612), (wI g st_what 0 8 stw), (wI g st_node 0 8 stn), (wI g st_index 0 8 sti), (wI g st_before 0 8 stb), (wI g n_pay 0 12 n_fpay), (wI g n_held 0 12 n_fheld)]) (w1 := [(wO2 n n_nodes n_kind n_pay n_name n_ways n_held n_targets n_weights), (wI g n_weights 0 36 n_gweights_95624)]) hP hD [5, 8] [0, 1, 2, 3, 4, 6, 7] rfl rfl (by decide) (by decide) hk1 hFc hP1 hD1
        generalize H1 = H at hP hS ⊢
        have hP : va_P D vwCl [(wO7 st st_what st_node st_index st_before v_95612), (wI g st_what 0 8 stw), (wI g st_node 0 8 stn), (wI g st_index 0 8 sti), (wI g st_before 0 8 stb), (wI g n_pay 0 12 n_fpay), (wI g n_held 0 12 n_fheld), (wO2 n n_nodes n_kind n_pay n_name n_ways n_held n_targets n_weights), (wI g n_weights 0 36 n_gweights_95624)] H := hP
        have hD : va_D A [(wO7 st st_what st_node st_index st_before v_95612), (wI g st_what 0 8 stw), (wI g st_node 0 8 stn), (wI g st_index 0 8 sti), (wI g st_before 0 8 stb), (wI g n_pay 0 12 n_fpay), (wI g n_held 0 12 n_fheld), (wO2 n n_nodes n_kind n_pay n_name n_ways n_held n_targets n_weights), (wI g n_weights 0 36 n_gweights_95624)] := hD
        refine lv_goto (tgt := 123) hx hb dX7_takeBack_105 (by decide) ?_
        have hP9 := hP.sub (ws' := [(wO7 st st_what st_node st_index st_before v_95612), (wI g st_what 0 8 stw), (wI g st_node 0 8 stn), (wI g st_index 0 8 sti), (wI g st_before 0 8 stb), (wO2 n n_nodes n_kind n_pay n_name n_ways n_held n_targets n_weights), (wI g n_pay 0 12 n_fpay), (wI g n_held 0 12 n_fheld), (wI g n_weights 0 36 n_gweights_95624)]) [0, 1, 2, 3, 4, 7, 5, 6, 8] rfl
        have hD9 := hD.sub (ws' := [(wO7 st st_what st_node st_index st_before v_95612), (wI g st_what 0 8 stw), (wI g st_node 0 8 stn), (wI g st_index 0 8 sti), (wI g st_before 0 8 stb), (wO2 n n_nodes n_kind n_pay n_name n_ways n_held n_targets n_weights), (wI g n_pay 0 12 n_fpay), (wI g n_held 0 12 n_fheld), (wI g n_weights 0 36 n_gweights_95624)]) [0, 1, 2, 3, 4, 7, 5, 6, 8] (by decide) rfl
        exact W.vret hx hb hr (fun t ht hW => ⟨⟨(), rfl, trivial, v_95612, n_fpay, n_fheld, n_gweights_95624, (tr_w h_v_95612 (by decide) (by decide)), (tr_wa h_n_fheld (by decide) (by decide)), (fun _ => ⟨by omega, fun k9 n9 w9 t9 => by rw [(by omega : ((stc : Int32).toInt.toNat - 1) = v_95612.toInt.toNat), ← gi_v_95614, ← gi_v_95613, ← gi_v_95621, ← gi_v_95622]; rw [cell_x (by have z_1 := tk_1; omega), hf_95625]; exact absC_setX (by omega) (by omega)⟩), by rw [ht]; exact hP9, hD9⟩, hS.F ht⟩) hS.2.2 dX7_takeBack_123
      · have e_95619_n : ¬ (v_95614 : Int32).toInt = 1 := fun q => e_95619 (Int32.toInt_inj.mp (q.trans (by decide)))
        have e_95626 : v_95614 = 2 := Int32.toInt_inj.mp (((by have q1 := h_v_95614; omega) : (v_95614 : Int32).toInt = 2).trans (by decide))
        have h_95627 : 2 ≤ (v_95614 : Int32).toInt ∧ (v_95614 : Int32).toInt ≤ 2 := by rw [e_95626]; exact ⟨by decide, by decide⟩
        refine lv_lookup (off := 71) (tgt := 108) hx hb dX7_takeBack_37 (by decide) (by rw [e_95626]; decide) (by decide) ?_
        refine lv_aload_n hx hb dX7_takeBack_108 rfl (lv_at hl 2 rfl) ?_
        refine va_get (D := D) (ci := 2) (v := .ref n_pay) (C := RX2) (T := TX2) (N := 8) hx hb hts inlX2 hown hK hP 5 rfl rfl 2 (by decide) (hts (Cond.fieldLink RX7 46 "ChanceRings$Net" "pay" "[I") qw_635) (fun _ h9 => h9) rfl dX7_takeBack_109 ?_
        refine lv_iload_n hx hb dX7_takeBack_112 rfl (lv_at hl 0 rfl) ?_
        refine lv_aload_n hx hb dX7_takeBack_113 rfl (lv_at hl 1 rfl) ?_
        refine va_get (D := D) (ci := 7) (v := .ref st_before) (C := RX7) (T := TX7) (N := 5) hx hb hts inlX7 hown hK hP 0 rfl rfl 3 (by decide) (hts (Cond.fieldLink RX7 21 "ChanceRings$Steps" "before" "[I") qw_624) (fun _ h9 => h9) rfl dX7_takeBack_114 ?_
        refine lv_aload_n hx hb dX7_takeBack_117 rfl (lv_at hl 1 rfl) ?_
        refine va_get (D := D) (ci := 7) (v := .int v_95612) (C := RX7) (T := TX7) (N := 5) hx hb hts inlX7 hown hK hP 0 rfl rfl 4 (by decide) (hts (Cond.fieldLink RX7 24 "ChanceRings$Steps" "count" "I") qw_619) (fun _ h9 => h9) rfl dX7_takeBack_118 ?_
        refine va_iald hx hb hK hP 4 0 rfl rfl (tr_in h_v_95612 (by decide) (by decide)) dX7_takeBack_121 ?_
        refine lv_topi (fun v_95628 v_95628_e => ?_)
        have g_v_95628 : v_95628 = stb (v_95612.toInt.toNat) := v_95628_e.trans (congrArg stb rfl)
        have gi_v_95628 := congrArg Int32.toInt g_v_95628
        refine va_iast hx hb hK hP hD hS 6 0 rfl rfl (tr_in h_v_95613 (by decide) (by decide)) dX7_takeBack_122 (fun H locs hP hD hS => ?_)
        obtain ⟨f_95629, f_95629_e, hP, hD⟩ : ∃ FX : Nat → Int32, FX = (upd n_fpay (v_95613 : Int32).toNatClampNeg v_95628) ∧ va_P D vwCl [(wO7 st st_what st_node st_index st_before v_95612), (wI g st_what 0 8 stw), (wI g st_node 0 8 stn), (wI g st_index 0 8 sti), (wI g st_before 0 8 stb), (wO2 n n_nodes n_kind n_pay n_name n_ways n_held n_targets n_weights), (wI g n_pay 0 12 FX), (wI g n_held 0 12 n_fheld), (wI g n_weights 0 36 n_fweights)] H ∧ va_D A [(wO7 st st_what st_node st_index st_before v_95612), (wI g st_what 0 8 stw), (wI g st_node 0 8 stn), (wI g st_index 0 8 sti), (wI g st_before 0 8 stb), (wO2 n n_nodes n_kind n_pay n_name n_ways n_held n_targets n_weights), (wI g n_pay 0 12 FX), (wI g n_held 0 12 n_fheld), (wI g n_weights 0 36 n_fweights)] := ⟨_, rfl, hP, hD⟩
        have hP : va_P D vwCl [(wO7 st st_what st_node st_index st_before v_95612), (wI g st_what 0 8 stw), (wI g st_node 0 8 stn), (wI g st_index 0 8 sti), (wI g st_before 0 8 stb), (wO2 n n_nodes n_kind n_pay n_name n_ways n_held n_targets n_weights), (wI g n_pay 0 12 f_95629), (wI g n_held 0 12 n_fheld), (wI g n_weights 0 36 n_fweights)] H := hP
        have hD : va_D A [(wO7 st st_what st_node st_index st_before v_95612), (wI g st_what 0 8 stw), (wI g st_node 0 8 stn), (wI g st_index 0 8 sti), (wI g st_before 0 8 stb), (wO2 n n_nodes n_kind n_pay n_name n_ways n_held n_targets n_weights), (wI g n_pay 0 12 f_95629), (wI g n_held 0 12 n_fheld), (wI g n_weights 0 36 n_fweights)] := hD
        have hP9 := hP.sub (ws' := [(wO7 st st_what st_node st_index st_before v_95612), (wI g st_what 0 8 stw), (wI g st_node 0 8 stn), (wI g st_index 0 8 sti), (wI g st_before 0 8 stb), (wO2 n n_nodes n_kind n_pay n_name n_ways n_held n_targets n_weights), (wI g n_pay 0 12 f_95629), (wI g n_held 0 12 n_fheld), (wI g n_weights 0 36 n_fweights)]) [0, 1, 2, 3, 4, 5, 6, 7, 8] rfl
        have hD9 := hD.sub (ws' := [(wO7 st st_what st_node st_index st_before v_95612), (wI g st_what 0 8 stw), (wI g st_node 0 8 stn), (wI g st_index 0 8 sti), (wI g st_before 0 8 stb), (wO2 n n_nodes n_kind n_pay n_name n_ways n_held n_targets n_weights), (wI g n_pay 0 12 f_95629), (wI g n_held 0 12 n_fheld), (wI g n_weights 0 36 n_fweights)]) [0, 1, 2, 3, 4, 5, 6, 7, 8] (by decide) rfl
        exact W.vret hx hb hr (fun t ht hW => ⟨⟨(), rfl, trivial, v_95612, f_95629, n_fheld, n_fweights, (tr_w h_v_95612 (by decide) (by decide)), (tr_wa h_n_fheld (by decide) (by decide)), (fun _ => ⟨by omega, fun k9 n9 w9 t9 => by rw [(by omega : ((stc : Int32).toInt.toNat - 1) = v_95612.toInt.toNat), ← gi_v_95614, ← gi_v_95613, ← gi_v_95628]; rw [cell_p (by have z_0 := tk_0; omega) (by have z_1 := tk_1; omega), f_95629_e]; exact absC_setP (by show Int.toNat _ < 12; omega)⟩), by rw [ht]; exact hP9, hD9⟩, hS.F ht⟩) hS.2.2 dX7_takeBack_123
  · skip
    have kk_0 := tk_0
    have c_95609_i := Int32.le_iff_toInt_le.mp (Int32.not_lt.mp c_95609)
    have h_95611 : 0 ≤ (stc : Int32).toInt ∧ (stc : Int32).toInt ≤ 0 := nr_le_l h_stc (⟨by decide, by decide⟩ : 0 ≤ (0 : Int32).toInt ∧ (0 : Int32).toInt ≤ 0) c_95609_i (by decide) (by decide)
    have hP9 := hP.sub (ws' := [(wO7 st st_what st_node st_index st_before stc), (wI g st_what 0 8 stw), (wI g st_node 0 8 stn), (wI g st_index 0 8 sti), (wI g st_before 0 8 stb), (wO2 n n_nodes n_kind n_pay n_name n_ways n_held n_targets n_weights), (wI g n_pay 0 12 n_fpay), (wI g n_held 0 12 n_fheld), (wI g n_weights 0 36 n_fweights)]) [0, 1, 2, 3, 4, 5, 6, 7, 8] rfl
    have hD9 := hD.sub (ws' := [(wO7 st st_what st_node st_index st_before stc), (wI g st_what 0 8 stw), (wI g st_node 0 8 stn), (wI g st_index 0 8 sti), (wI g st_before 0 8 stb), (wO2 n n_nodes n_kind n_pay n_name n_ways n_held n_targets n_weights), (wI g n_pay 0 12 n_fpay), (wI g n_held 0 12 n_fheld), (wI g n_weights 0 36 n_fweights)]) [0, 1, 2, 3, 4, 5, 6, 7, 8] (by decide) rfl
    exact W.vret hx hb hr (fun t ht hW => ⟨⟨(), rfl, trivial, stc, n_fpay, n_fheld, n_fweights, (tr_w h_95611 (by decide) (by decide)), (tr_wa h_n_fheld (by decide) (by decide)), (fun h9 => absurd h9 (by have z_0 := tk_0; omega)), by rw [ht]; exact hP9, hD9⟩, hS.F ht⟩) hS.2.2 dX7_takeBack_7
