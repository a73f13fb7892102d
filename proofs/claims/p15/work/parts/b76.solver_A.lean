set_option maxHeartbeats 4000000 in
set_option maxRecDepth 100000 in
theorem c_X6_findWorth (l : Launch) (D : va_G) (g : Nat → ClassId) (sz : Nat) (sv : Nat) (pl : Nat) (p0 : Int32) (p1 : Int32) (vs : Nat) (n : Nat) (co : Nat) (sv_keep : Nat) (sv_scaled : Nat) (eq : Nat) (co_place : Nat) (n_nodes : Int32) (n_kind : Nat) (n_pay : Nat) (n_name : Nat) (n_ways : Nat) (n_held : Nat) (n_targets : Nat) (n_weights : Nat) (n_fkind : Nat → Int32) (n_fpay : Nat → Int32) (n_fways : Nat → Int32) (n_fheld : Nat → Int32) (n_ftargets : Nat → Int32) (n_fweights : Nat → Int32) (pcf : Nat → Int32) (eq_rows : Nat) (eq_right : Nat) (ew : Int64) (fr : Nat → Int64) (rr : Nat → Nat) (ct : Nat → Nat → Int64) (plf : Nat → Int32) (vs_part : Nat) (vsw : Int64) (vsp : Nat → Int64) (h_n_nodes : 0 ≤ (n_nodes : Int32).toInt ∧ (n_nodes : Int32).toInt ≤ 12) (h_n_fkind : ∀ j : Nat, 0 ≤ (n_fkind j).toInt ∧ (n_fkind j).toInt ≤ 3) (h_n_fways : ∀ j : Nat, 0 ≤ (n_fways j).toInt ∧ (n_fways j).toInt ≤ 3) (h_n_fheld : ∀ j : Nat, (-1) ≤ (n_fheld j).toInt ∧ (n_fheld j).toInt ≤ 2) (h_n_ftargets : ∀ j : Nat, 0 ≤ (n_ftargets j).toInt ∧ (n_ftargets j).toInt ≤ 11) (h_pcf : ∀ j : Nat, (-1) ≤ (pcf j).toInt ∧ (pcf j).toInt ≤ 7) (h_plf : ∀ j : Nat, 0 ≤ (plf j).toInt ∧ (plf j).toInt ≤ 2) : Met l yX6_findWorth (.code yX6_findWorth cX6_findWorth 7 none :: wsL_law) ({ frames := 5, cells := 0, slots := 0, locals := 132 }) (va_Pc [.ref sv, .ref pl, .int p0, .int p1, .ref vs] (fun U => U.heap.size = sz ∧ va_P D vwCl [(sv, .inr (6, [.ref n, .ref co, .ref sv_keep, .ref sv_scaled])), (co, .inr (0, [.ref n, .ref eq, .ref co_place])), (n, .inr (2, [.int n_nodes, .ref n_kind, .ref n_pay, .ref n_name, .ref n_ways, .ref n_held, .ref n_targets, .ref n_weights])), (n_kind, .inl (g 0, 12, .inl n_fkind)), (n_pay, .inl (g 0, 12, .inl n_fpay)), (n_ways, .inl (g 0, 12, .inl n_fways)), (n_held, .inl (g 0, 12, .inl n_fheld)), (n_targets, .inl (g 0, 36, .inl n_ftargets)), (n_weights, .inl (g 0, 36, .inl n_fweights)), (co_place, .inl (g 0, 12, .inl pcf)), (eq, .inr (1, [.ref eq_rows, .ref eq_right, .long ew])), (eq_right, .inl (g 1, 8, .inr (.inl fr))), (eq_rows, .inl (g 5, 8, .inr (.inr (.inr (.inr (fun i => if i < 8 then some (rr i) else none)))))), ((rr 0), .inl (g 1, 8, .inr (.inl (ct 0)))), ((rr 1), .inl (g 1, 8, .inr (.inl (ct 1)))), ((rr 2), .inl (g 1, 8, .inr (.inl (ct 2)))), ((rr 3), .inl (g 1, 8, .inr (.inl (ct 3)))), ((rr 4), .inl (g 1, 8, .inr (.inl (ct 4)))), ((rr 5), .inl (g 1, 8, .inr (.inl (ct 5)))), ((rr 6), .inl (g 1, 8, .inr (.inl (ct 6)))), ((rr 7), .inl (g 1, 8, .inr (.inl (ct 7)))), (pl, .inl (g 0, 12, .inl plf)), (vs, .inr (10, [.ref vs_part, .long vsw])), (vs_part, .inl (g 1, 12, .inr (.inl vsp)))] U.heap ∧ va_K D vwCl (TY g) U ∧ va_D (fun _ => True) [(sv, .inr (6, [.ref n, .ref co, .ref sv_keep, .ref sv_scaled])), (co, .inr (0, [.ref n, .ref eq, .ref co_place])), (n, .inr (2, [.int n_nodes, .ref n_kind, .ref n_pay, .ref n_name, .ref n_ways, .ref n_held, .ref n_targets, .ref n_weights])), (n_kind, .inl (g 0, 12, .inl n_fkind)), (n_pay, .inl (g 0, 12, .inl n_fpay)), (n_ways, .inl (g 0, 12, .inl n_fways)), (n_held, .inl (g 0, 12, .inl n_fheld)), (n_targets, .inl (g 0, 36, .inl n_ftargets)), (n_weights, .inl (g 0, 36, .inl n_fweights)), (co_place, .inl (g 0, 12, .inl pcf)), (eq, .inr (1, [.ref eq_rows, .ref eq_right, .long ew])), (eq_right, .inl (g 1, 8, .inr (.inl fr))), (eq_rows, .inl (g 5, 8, .inr (.inr (.inr (.inr (fun i => if i < 8 then some (rr i) else none)))))), ((rr 0), .inl (g 1, 8, .inr (.inl (ct 0)))), ((rr 1), .inl (g 1, 8, .inr (.inl (ct 1)))), ((rr 2), .inl (g 1, 8, .inr (.inl (ct 2)))), ((rr 3), .inl (g 1, 8, .inr (.inl (ct 3)))), ((rr 4), .inl (g 1, 8, .inr (.inl (ct 4)))), ((rr 5), .inl (g 1, 8, .inr (.inl (ct 5)))), ((rr 6), .inl (g 1, 8, .inr (.inl (ct 6)))), ((rr 7), .inl (g 1, 8, .inr (.inl (ct 7)))), (pl, .inl (g 0, 12, .inl plf)), (vs, .inr (10, [.ref vs_part, .long vsw])), (vs_part, .inl (g 1, 12, .inr (.inl vsp)))])) (va_Qv (fun (_ : Unit) => True) (fun _ t => ∃ opc : Nat → Int32, ∃ oew : Int64, ∃ ofr : Nat → Int64, ∃ opl : Nat → Int32, ∃ ovw : Int64, ∃ ovp : Nat → Int64, ∃ oct : Nat → Nat → Int64, (∀ j : Nat, (-1) ≤ (opc j).toInt ∧ (opc j).toInt ≤ 7) ∧ (∀ j : Nat, 0 ≤ (opl j).toInt ∧ (opl j).toInt ≤ 2) ∧ va_P D vwCl [(sv, .inr (6, [.ref n, .ref co, .ref sv_keep, .ref sv_scaled])), (co, .inr (0, [.ref n, .ref eq, .ref co_place])), (n, .inr (2, [.int n_nodes, .ref n_kind, .ref n_pay, .ref n_name, .ref n_ways, .ref n_held, .ref n_targets, .ref n_weights])), (n_kind, .inl (g 0, 12, .inl n_fkind)), (n_pay, .inl (g 0, 12, .inl n_fpay)), (n_ways, .inl (g 0, 12, .inl n_fways)), (n_held, .inl (g 0, 12, .inl n_fheld)), (n_targets, .inl (g 0, 36, .inl n_ftargets)), (n_weights, .inl (g 0, 36, .inl n_fweights)), (co_place, .inl (g 0, 12, .inl opc)), (eq, .inr (1, [.ref eq_rows, .ref eq_right, .long oew])), (eq_right, .inl (g 1, 8, .inr (.inl ofr))), (eq_rows, .inl (g 5, 8, .inr (.inr (.inr (.inr (fun i => if i < 8 then some (rr i) else none)))))), ((rr 0), .inl (g 1, 8, .inr (.inl (oct 0)))), ((rr 1), .inl (g 1, 8, .inr (.inl (oct 1)))), ((rr 2), .inl (g 1, 8, .inr (.inl (oct 2)))), ((rr 3), .inl (g 1, 8, .inr (.inl (oct 3)))), ((rr 4), .inl (g 1, 8, .inr (.inl (oct 4)))), ((rr 5), .inl (g 1, 8, .inr (.inl (oct 5)))), ((rr 6), .inl (g 1, 8, .inr (.inl (oct 6)))), ((rr 7), .inl (g 1, 8, .inr (.inl (oct 7)))), (pl, .inl (g 0, 12, .inl opl)), (vs, .inr (10, [.ref vs_part, .long ovw])), (vs_part, .inl (g 1, 12, .inr (.inl ovp)))] t.heap ∧ va_D (va_A [(sv, .inr (6, [.ref n, .ref co, .ref sv_keep, .ref sv_scaled])), (co, .inr (0, [.ref n, .ref eq, .ref co_place])), (n, .inr (2, [.int n_nodes, .ref n_kind, .ref n_pay, .ref n_name, .ref n_ways, .ref n_held, .ref n_targets, .ref n_weights])), (n_kind, .inl (g 0, 12, .inl n_fkind)), (n_pay, .inl (g 0, 12, .inl n_fpay)), (n_ways, .inl (g 0, 12, .inl n_fways)), (n_held, .inl (g 0, 12, .inl n_fheld)), (n_targets, .inl (g 0, 36, .inl n_ftargets)), (n_weights, .inl (g 0, 36, .inl n_fweights)), (co_place, .inl (g 0, 12, .inl pcf)), (eq, .inr (1, [.ref eq_rows, .ref eq_right, .long ew])), (eq_right, .inl (g 1, 8, .inr (.inl fr))), (eq_rows, .inl (g 5, 8, .inr (.inr (.inr (.inr (fun i => if i < 8 then some (rr i) else none)))))), ((rr 0), .inl (g 1, 8, .inr (.inl (ct 0)))), ((rr 1), .inl (g 1, 8, .inr (.inl (ct 1)))), ((rr 2), .inl (g 1, 8, .inr (.inl (ct 2)))), ((rr 3), .inl (g 1, 8, .inr (.inl (ct 3)))), ((rr 4), .inl (g 1, 8, .inr (.inl (ct 4)))), ((rr 5), .inl (g 1, 8, .inr (.inl (ct 5)))), ((rr 6), .inl (g 1, 8, .inr (.inl (ct 6)))), ((rr 7), .inl (g 1, 8, .inr (.inl (ct 7)))), (pl, .inl (g 0, 12, .inl plf)), (vs, .inr (10, [.ref vs_part, .long vsw])), (vs_part, .inl (g 1, 12, .inr (.inl vsp)))] sz) [(sv, .inr (6, [.ref n, .ref co, .ref sv_keep, .ref sv_scaled])), (co, .inr (0, [.ref n, .ref eq, .ref co_place])), (n, .inr (2, [.int n_nodes, .ref n_kind, .ref n_pay, .ref n_name, .ref n_ways, .ref n_held, .ref n_targets, .ref n_weights])), (n_kind, .inl (g 0, 12, .inl n_fkind)), (n_pay, .inl (g 0, 12, .inl n_fpay)), (n_ways, .inl (g 0, 12, .inl n_fways)), (n_held, .inl (g 0, 12, .inl n_fheld)), (n_targets, .inl (g 0, 36, .inl n_ftargets)), (n_weights, .inl (g 0, 36, .inl n_fweights)), (co_place, .inl (g 0, 12, .inl opc)), (eq, .inr (1, [.ref eq_rows, .ref eq_right, .long oew])), (eq_right, .inl (g 1, 8, .inr (.inl ofr))), (eq_rows, .inl (g 5, 8, .inr (.inr (.inr (.inr (fun i => if i < 8 then some (rr i) else none)))))), ((rr 0), .inl (g 1, 8, .inr (.inl (oct 0)))), ((rr 1), .inl (g 1, 8, .inr (.inl (oct 1)))), ((rr 2), .inl (g 1, 8, .inr (.inl (oct 2)))), ((rr 3), .inl (g 1, 8, .inr (.inl (oct 3)))), ((rr 4), .inl (g 1, 8, .inr (.inl (oct 4)))), ((rr 5), .inl (g 1, 8, .inr (.inl (oct 5)))), ((rr 6), .inl (g 1, 8, .inr (.inl (oct 6)))), ((rr 7), .inl (g 1, 8, .inr (.inl (oct 7)))), (pl, .inl (g 0, 12, .inl opl)), (vs, .inr (10, [.ref vs_part, .long ovw])), (vs_part, .inl (g 1, 12, .inr (.inl ovp)))]) (va_A [(sv, .inr (6, [.ref n, .ref co, .ref sv_keep, .ref sv_scaled])), (co, .inr (0, [.ref n, .ref eq, .ref co_place])), (n, .inr (2, [.int n_nodes, .ref n_kind, .ref n_pay, .ref n_name, .ref n_ways, .ref n_held, .ref n_targets, .ref n_weights])), (n_kind, .inl (g 0, 12, .inl n_fkind)), (n_pay, .inl (g 0, 12, .inl n_fpay)), (n_ways, .inl (g 0, 12, .inl n_fways)), (n_held, .inl (g 0, 12, .inl n_fheld)), (n_targets, .inl (g 0, 36, .inl n_ftargets)), (n_weights, .inl (g 0, 36, .inl n_fweights)), (co_place, .inl (g 0, 12, .inl pcf)), (eq, .inr (1, [.ref eq_rows, .ref eq_right, .long ew])), (eq_right, .inl (g 1, 8, .inr (.inl fr))), (eq_rows, .inl (g 5, 8, .inr (.inr (.inr (.inr (fun i => if i < 8 then some (rr i) else none)))))), ((rr 0), .inl (g 1, 8, .inr (.inl (ct 0)))), ((rr 1), .inl (g 1, 8, .inr (.inl (ct 1)))), ((rr 2), .inl (g 1, 8, .inr (.inl (ct 2)))), ((rr 3), .inl (g 1, 8, .inr (.inl (ct 3)))), ((rr 4), .inl (g 1, 8, .inr (.inl (ct 4)))), ((rr 5), .inl (g 1, 8, .inr (.inl (ct 5)))), ((rr 6), .inl (g 1, 8, .inr (.inl (ct 6)))), ((rr 7), .inl (g 1, 8, .inr (.inl (ct 7)))), (pl, .inl (g 0, 12, .inl plf)), (vs, .inr (10, [.ref vs_part, .long vsw])), (vs_part, .inl (g 1, 12, .inr (.inl vsp)))] sz)) 0 0 (va_A [(sv, .inr (6, [.ref n, .ref co, .ref sv_keep, .ref sv_scaled])), (co, .inr (0, [.ref n, .ref eq, .ref co_place])), (n, .inr (2, [.int n_nodes, .ref n_kind, .ref n_pay, .ref n_name, .ref n_ways, .ref n_held, .ref n_targets, .ref n_weights])), (n_kind, .inl (g 0, 12, .inl n_fkind)), (n_pay, .inl (g 0, 12, .inl n_fpay)), (n_ways, .inl (g 0, 12, .inl n_fways)), (n_held, .inl (g 0, 12, .inl n_fheld)), (n_targets, .inl (g 0, 36, .inl n_ftargets)), (n_weights, .inl (g 0, 36, .inl n_fweights)), (co_place, .inl (g 0, 12, .inl pcf)), (eq, .inr (1, [.ref eq_rows, .ref eq_right, .long ew])), (eq_right, .inl (g 1, 8, .inr (.inl fr))), (eq_rows, .inl (g 5, 8, .inr (.inr (.inr (.inr (fun i => if i < 8 then some (rr i) else none)))))), ((rr 0), .inl (g 1, 8, .inr (.inl (ct 0)))), ((rr 1), .inl (g 1, 8, .inr (.inl (ct 1)))), ((rr 2), .inl (g 1, 8, .inr (.inl (ct 2)))), ((rr 3), .inl (g 1, 8, .inr (.inl (ct 3)))), ((rr 4), .inl (g 1, 8, .inr (.inl (ct 4)))), ((rr 5), .inl (g 1, 8, .inr (.inl (ct 5)))), ((rr 6), .inl (g 1, 8, .inr (.inl (ct 6)))), ((rr 7), .inl (g 1, 8, .inr (.inl (ct 7)))), (pl, .inl (g 0, 12, .inl plf)), (vs, .inr (10, [.ref vs_part, .long vsw])), (vs_part, .inl (g 1, 12, .inr (.inl vsp)))] sz) := by
  refine Met.ofW (cc := cX6_findWorth) (maxL := 7) (ret := none) (by decide) rfl ?_
  intro p e s m args below meth c s₁ B hml hv
  obtain ⟨ha, hsz, hP, hK, hD0⟩ := hv
  have hx := B.exec
  have hb := B.bytes
  have hr := B.returns
  have hts0 := atoms_spec (ws := (.code yX6_findWorth cX6_findWorth 7 none :: wsL_law)) B.pre
  have hts : ∀ w ∈ wsL_law, w.before args s = true := fun w h => hts0 w (List.mem_cons_of_mem _ h)
  have hown : s.vm.findClass RX6 = some m.cls := findClass_of_methodNamed B.named
  have hlocks := B.notSynchronized
  subst hsz
  have hD := hD0.self (sz := s.heap.size)
  generalize hAe : va_A [(sv, .inr (6, [.ref n, .ref co, .ref sv_keep, .ref sv_scaled])), (co, .inr (0, [.ref n, .ref eq, .ref co_place])), (n, .inr (2, [.int n_nodes, .ref n_kind, .ref n_pay, .ref n_name, .ref n_ways, .ref n_held, .ref n_targets, .ref n_weights])), (n_kind, .inl (g 0, 12, .inl n_fkind)), (n_pay, .inl (g 0, 12, .inl n_fpay)), (n_ways, .inl (g 0, 12, .inl n_fways)), (n_held, .inl (g 0, 12, .inl n_fheld)), (n_targets, .inl (g 0, 36, .inl n_ftargets)), (n_weights, .inl (g 0, 36, .inl n_fweights)), (co_place, .inl (g 0, 12, .inl pcf)), (eq, .inr (1, [.ref eq_rows, .ref eq_right, .long ew])), (eq_right, .inl (g 1, 8, .inr (.inl fr))), (eq_rows, .inl (g 5, 8, .inr (.inr (.inr (.inr (fun i => if i < 8 then some (rr i) else none)))))), ((rr 0), .inl (g 1, 8, .inr (.inl (ct 0)))), ((rr 1), .inl (g 1, 8, .inr (.inl (ct 1)))), ((rr 2), .inl (g 1, 8, .inr (.inl (ct 2)))), ((rr 3), .inl (g 1, 8, .inr (.inl (ct 3)))), ((rr 4), .inl (g 1, 8, .inr (.inl (ct 4)))), ((rr 5), .inl (g 1, 8, .inr (.inl (ct 5)))), ((rr 6), .inl (g 1, 8, .inr (.inl (ct 6)))), ((rr 7), .inl (g 1, 8, .inr (.inl (ct 7)))), (pl, .inl (g 0, 12, .inl plf)), (vs, .inr (10, [.ref vs_part, .long vsw])), (vs_part, .inl (g 1, 12, .inr (.inl vsp)))] s.heap.size = A at hD ⊢
  have hA : ∀ q : Nat, s.heap.size ≤ q → A q := fun q h => by rw [← hAe]; exact Or.inr h
  have hS : va_S A s.heap s.heap [] := va_S.rf
  have hP : va_P D vwCl [(sv, .inr (6, [.ref n, .ref co, .ref sv_keep, .ref sv_scaled])), (co, .inr (0, [.ref n, .ref eq, .ref co_place])), (n, .inr (2, [.int n_nodes, .ref n_kind, .ref n_pay, .ref n_name, .ref n_ways, .ref n_held, .ref n_targets, .ref n_weights])), (n_kind, .inl (g 0, 12, .inl n_fkind)), (n_pay, .inl (g 0, 12, .inl n_fpay)), (n_ways, .inl (g 0, 12, .inl n_fways)), (n_held, .inl (g 0, 12, .inl n_fheld)), (n_targets, .inl (g 0, 36, .inl n_ftargets)), (n_weights, .inl (g 0, 36, .inl n_fweights)), (co_place, .inl (g 0, 12, .inl pcf)), (eq, .inr (1, [.ref eq_rows, .ref eq_right, .long ew])), (eq_right, .inl (g 1, 8, .inr (.inl fr))), (eq_rows, .inl (g 5, 8, .inr (.inr (.inr (.inr (fun i => if i < 8 then some (rr i) else none)))))), ((rr 0), .inl (g 1, 8, .inr (.inl (ct 0)))), ((rr 1), .inl (g 1, 8, .inr (.inl (ct 1)))), ((rr 2), .inl (g 1, 8, .inr (.inl (ct 2)))), ((rr 3), .inl (g 1, 8, .inr (.inl (ct 3)))), ((rr 4), .inl (g 1, 8, .inr (.inl (ct 4)))), ((rr 5), .inl (g 1, 8, .inr (.inl (ct 5)))), ((rr 6), .inl (g 1, 8, .inr (.inl (ct 6)))), ((rr 7), .inl (g 1, 8, .inr (.inl (ct 7)))), (pl, .inl (g 0, 12, .inl plf)), (vs, .inr (10, [.ref vs_part, .long vsw])), (vs_part, .inl (g 1, 12, .inr (.inl vsp)))] s.heap := hP
  refine W.eq (g2 := entryFrame m ([.ref sv, .ref pl, .int p0, .int p1, .ref vs] : List Value).toArray 7) (by rw [ha]) ?_
  have hl := lv_entry ([.ref sv, .ref pl, .int p0, .int p1, .ref vs]) (n := 7) (Nat.le_of_ble_eq_true rfl)
  rw [lg_entry_eq]
  generalize (lg_sl ([.ref sv, .ref pl, .int p0, .int p1, .ref vs]) ++ List.replicate (7 - (lg_sl ([.ref sv, .ref pl, .int p0, .int p1, .ref vs])).length) Slot.unset).toArray = ls at hl ⊢
  have hl : lv_has ls 7 [(0, .ref sv), (1, .ref pl), (2, .int p0), (3, .int p1), (4, .ref vs)] := hl
  refine lv_iconst (v := 1) hx hb dX6_findWorth_0 (by decide) ?_
  refine lv_istore (lv' := [(5, .int 1), (0, .ref sv), (1, .ref pl), (2, .int p0), (3, .int p1), (4, .ref vs)]) hx hb dX6_findWorth_1 hl (by decide) rfl (fun ls hl => ?_)
  refine lv_iconst (v := 0) hx hb dX6_findWorth_3 (by decide) ?_
  refine lv_istore (lv' := [(6, .int 0), (5, .int 1), (0, .ref sv), (1, .ref pl), (2, .int p0), (3, .int p1), (4, .ref vs)]) hx hb dX6_findWorth_4 hl (by decide) rfl (fun ls hl => ?_)
  have lp_86120 : ∀ (n_86120 : Nat) (ct_86111 : Nat → Nat → Int64) (x_86112 : Int32) (x_86113 : Int32) (f_86114 : Nat → Int32) (x_86115 : Int64) (f_86116 : Nat → Int64) (f_86117 : Nat → Int32) (x_86118 : Int64) (f_86119 : Nat → Int64) (H : Heap) (locs : List Loc) (ls : Array Slot), (0 ≤ (x_86112 : Int32).toInt ∧ (x_86112 : Int32).toInt ≤ 2147483647) → (0 ≤ (x_86113 : Int32).toInt ∧ (x_86113 : Int32).toInt ≤ 1) → (∀ j : Nat, (-1) ≤ (f_86114 j).toInt ∧ (f_86114 j).toInt ≤ 7) → (∀ j : Nat, 0 ≤ (f_86117 j).toInt ∧ (f_86117 j).toInt ≤ 2) → (2147483647 - x_86112.toInt < (n_86120 : Int)) → va_P D vwCl [(sv, .inr (6, [.ref n, .ref co, .ref sv_keep, .ref sv_scaled])), (co, .inr (0, [.ref n, .ref eq, .ref co_place])), (n, .inr (2, [.int n_nodes, .ref n_kind, .ref n_pay, .ref n_name, .ref n_ways, .ref n_held, .ref n_targets, .ref n_weights])), (n_kind, .inl (g 0, 12, .inl n_fkind)), (n_pay, .inl (g 0, 12, .inl n_fpay)), (n_ways, .inl (g 0, 12, .inl n_fways)), (n_held, .inl (g 0, 12, .inl n_fheld)), (n_targets, .inl (g 0, 36, .inl n_ftargets)), (n_weights, .inl (g 0, 36, .inl n_fweights)), (co_place, .inl (g 0, 12, .inl f_86114)), (eq, .inr (1, [.ref eq_rows, .ref eq_right, .long x_86115])), (eq_right, .inl (g 1, 8, .inr (.inl f_86116))), (eq_rows, .inl (g 5, 8, .inr (.inr (.inr (.inr (fun i => if i < 8 then some (rr i) else none)))))), ((rr 0), .inl (g 1, 8, .inr (.inl (ct_86111 0)))), ((rr 1), .inl (g 1, 8, .inr (.inl (ct_86111 1)))), ((rr 2), .inl (g 1, 8, .inr (.inl (ct_86111 2)))), ((rr 3), .inl (g 1, 8, .inr (.inl (ct_86111 3)))), ((rr 4), .inl (g 1, 8, .inr (.inl (ct_86111 4)))), ((rr 5), .inl (g 1, 8, .inr (.inl (ct_86111 5)))), ((rr 6), .inl (g 1, 8, .inr (.inl (ct_86111 6)))), ((rr 7), .inl (g 1, 8, .inr (.inl (ct_86111 7)))), (pl, .inl (g 0, 12, .inl f_86117)), (vs, .inr (10, [.ref vs_part, .long x_86118])), (vs_part, .inl (g 1, 12, .inr (.inl f_86119)))] H → va_D A [(sv, .inr (6, [.ref n, .ref co, .ref sv_keep, .ref sv_scaled])), (co, .inr (0, [.ref n, .ref eq, .ref co_place])), (n, .inr (2, [.int n_nodes, .ref n_kind, .ref n_pay, .ref n_name, .ref n_ways, .ref n_held, .ref n_targets, .ref n_weights])), (n_kind, .inl (g 0, 12, .inl n_fkind)), (n_pay, .inl (g 0, 12, .inl n_fpay)), (n_ways, .inl (g 0, 12, .inl n_fways)), (n_held, .inl (g 0, 12, .inl n_fheld)), (n_targets, .inl (g 0, 36, .inl n_ftargets)), (n_weights, .inl (g 0, 36, .inl n_fweights)), (co_place, .inl (g 0, 12, .inl f_86114)), (eq, .inr (1, [.ref eq_rows, .ref eq_right, .long x_86115])), (eq_right, .inl (g 1, 8, .inr (.inl f_86116))), (eq_rows, .inl (g 5, 8, .inr (.inr (.inr (.inr (fun i => if i < 8 then some (rr i) else none)))))), ((rr 0), .inl (g 1, 8, .inr (.inl (ct_86111 0)))), ((rr 1), .inl (g 1, 8, .inr (.inl (ct_86111 1)))), ((rr 2), .inl (g 1, 8, .inr (.inl (ct_86111 2)))), ((rr 3), .inl (g 1, 8, .inr (.inl (ct_86111 3)))), ((rr 4), .inl (g 1, 8, .inr (.inl (ct_86111 4)))), ((rr 5), .inl (g 1, 8, .inr (.inl (ct_86111 5)))), ((rr 6), .inl (g 1, 8, .inr (.inl (ct_86111 6)))), ((rr 7), .inl (g 1, 8, .inr (.inl (ct_86111 7)))), (pl, .inl (g 0, 12, .inl f_86117)), (vs, .inr (10, [.ref vs_part, .long x_86118])), (vs_part, .inl (g 1, 12, .inr (.inl f_86119)))] → va_S A s.heap H locs → lv_has ls 7 [(6, .int x_86112), (5, .int x_86113), (0, .ref sv), (1, .ref pl), (2, .int p0), (3, .int p1), (4, .ref vs)] → W p l e (headSpec (.code yX6_findWorth cX6_findWorth 7 none :: wsL_law) ({ frames := 5, cells := 0, slots := 0, locals := 132 })).room s m args below meth c H locs 0 0 (MQ below (va_Qv (fun (_ : Unit) => True) (fun _ t => ∃ opc : Nat → Int32, ∃ oew : Int64, ∃ ofr : Nat → Int64, ∃ opl : Nat → Int32, ∃ ovw : Int64, ∃ ovp : Nat → Int64, ∃ oct : Nat → Nat → Int64, (∀ j : Nat, (-1) ≤ (opc j).toInt ∧ (opc j).toInt ≤ 7) ∧ (∀ j : Nat, 0 ≤ (opl j).toInt ∧ (opl j).toInt ≤ 2) ∧ va_P D vwCl [(sv, .inr (6, [.ref n, .ref co, .ref sv_keep, .ref sv_scaled])), (co, .inr (0, [.ref n, .ref eq, .ref co_place])), (n, .inr (2, [.int n_nodes, .ref n_kind, .ref n_pay, .ref n_name, .ref n_ways, .ref n_held, .ref n_targets, .ref n_weights])), (n_kind, .inl (g 0, 12, .inl n_fkind)), (n_pay, .inl (g 0, 12, .inl n_fpay)), (n_ways, .inl (g 0, 12, .inl n_fways)), (n_held, .inl (g 0, 12, .inl n_fheld)), (n_targets, .inl (g 0, 36, .inl n_ftargets)), (n_weights, .inl (g 0, 36, .inl n_fweights)), (co_place, .inl (g 0, 12, .inl opc)), (eq, .inr (1, [.ref eq_rows, .ref eq_right, .long oew])), (eq_right, .inl (g 1, 8, .inr (.inl ofr))), (eq_rows, .inl (g 5, 8, .inr (.inr (.inr (.inr (fun i => if i < 8 then some (rr i) else none)))))), ((rr 0), .inl (g 1, 8, .inr (.inl (oct 0)))), ((rr 1), .inl (g 1, 8, .inr (.inl (oct 1)))), ((rr 2), .inl (g 1, 8, .inr (.inl (oct 2)))), ((rr 3), .inl (g 1, 8, .inr (.inl (oct 3)))), ((rr 4), .inl (g 1, 8, .inr (.inl (oct 4)))), ((rr 5), .inl (g 1, 8, .inr (.inl (oct 5)))), ((rr 6), .inl (g 1, 8, .inr (.inl (oct 6)))), ((rr 7), .inl (g 1, 8, .inr (.inl (oct 7)))), (pl, .inl (g 0, 12, .inl opl)), (vs, .inr (10, [.ref vs_part, .long ovw])), (vs_part, .inl (g 1, 12, .inr (.inl ovp)))] t.heap ∧ va_D A [(sv, .inr (6, [.ref n, .ref co, .ref sv_keep, .ref sv_scaled])), (co, .inr (0, [.ref n, .ref eq, .ref co_place])), (n, .inr (2, [.int n_nodes, .ref n_kind, .ref n_pay, .ref n_name, .ref n_ways, .ref n_held, .ref n_targets, .ref n_weights])), (n_kind, .inl (g 0, 12, .inl n_fkind)), (n_pay, .inl (g 0, 12, .inl n_fpay)), (n_ways, .inl (g 0, 12, .inl n_fways)), (n_held, .inl (g 0, 12, .inl n_fheld)), (n_targets, .inl (g 0, 36, .inl n_ftargets)), (n_weights, .inl (g 0, 36, .inl n_fweights)), (co_place, .inl (g 0, 12, .inl opc)), (eq, .inr (1, [.ref eq_rows, .ref eq_right, .long oew])), (eq_right, .inl (g 1, 8, .inr (.inl ofr))), (eq_rows, .inl (g 5, 8, .inr (.inr (.inr (.inr (fun i => if i < 8 then some (rr i) else none)))))), ((rr 0), .inl (g 1, 8, .inr (.inl (oct 0)))), ((rr 1), .inl (g 1, 8, .inr (.inl (oct 1)))), ((rr 2), .inl (g 1, 8, .inr (.inl (oct 2)))), ((rr 3), .inl (g 1, 8, .inr (.inl (oct 3)))), ((rr 4), .inl (g 1, 8, .inr (.inl (oct 4)))), ((rr 5), .inl (g 1, 8, .inr (.inl (oct 5)))), ((rr 6), .inl (g 1, 8, .inr (.inl (oct 6)))), ((rr 7), .inl (g 1, 8, .inr (.inl (oct 7)))), (pl, .inl (g 0, 12, .inl opl)), (vs, .inr (10, [.ref vs_part, .long ovw])), (vs_part, .inl (g 1, 12, .inr (.inl ovp)))]) A) args s 0 0 A) (F0 m 6 ls []) := by
    intro n_86120
    induction n_86120 with
    | zero =>
      intro ct_86111 x_86112 x_86113 f_86114 x_86115 f_86116 f_86117 x_86118 f_86119 H locs ls h_x_86112 h_x_86113 h_f_86114 h_f_86117 hm_86120 hP hD hS hl
      exfalso; omega
    | succ n_86120 ih_86120 =>
      intro ct_86111 x_86112 x_86113 f_86114 x_86115 f_86116 f_86117 x_86118 f_86119 H locs ls h_x_86112 h_x_86113 h_f_86114 h_f_86117 hm_86120 hP hD hS hl
      refine lv_iload hx hb dX6_findWorth_6 (lv_at hl 1 rfl) ?_
      refine lv_if_eq (tgt := 52) hx hb dX6_findWorth_8 (by decide) (fun c_86121 => ?_) (fun c_86121 => ?_)
      · skip
        have c_86121_i : (x_86113 : Int32).toInt = (0 : Int32).toInt := congrArg Int32.toInt c_86121
        have h_86122 : 0 ≤ (x_86113 : Int32).toInt ∧ (x_86113 : Int32).toInt ≤ 0 := nr_eq_l h_x_86113 (⟨by decide, by decide⟩ : 0 ≤ (0 : Int32).toInt ∧ (0 : Int32).toInt ≤ 0) c_86121_i (by decide) (by decide)
        have hP9 := hP.sub (ws' := [(sv, .inr (6, [.ref n, .ref co, .ref sv_keep, .ref sv_scaled])), (co, .inr (0, [.ref n, .ref eq, .ref co_place])), (n, .inr (2, [.int n_nodes, .ref n_kind, .ref n_pay, .ref n_name, .ref n_ways, .ref n_held, .ref n_targets, .ref n_weights])), (n_kind, .inl (g 0, 12, .inl n_fkind)), (n_pay, .inl (g 0, 12, .inl n_fpay)), (n_ways, .inl (g 0, 12, .inl n_fways)), (n_held, .inl (g 0, 12, .inl n_fheld)), (n_targets, .inl (g 0, 36, .inl n_ftargets)), (n_weights, .inl (g 0, 36, .inl n_fweights)), (co_place, .inl (g 0, 12, .inl f_86114)), (eq, .inr (1, [.ref eq_rows, .ref eq_right, .long x_86115])), (eq_right, .inl (g 1, 8, .inr (.inl f_86116))), (eq_rows, .inl (g 5, 8, .inr (.inr (.inr (.inr (fun i => if i < 8 then some (rr i) else none)))))), ((rr 0), .inl (g 1, 8, .inr (.inl (ct_86111 0)))), ((rr 1), .inl (g 1, 8, .inr (.inl (ct_86111 1)))), ((rr 2), .inl (g 1, 8, .inr (.inl (ct_86111 2)))), ((rr 3), .inl (g 1, 8, .inr (.inl (ct_86111 3)))), ((rr 4), .inl (g 1, 8, .inr (.inl (ct_86111 4)))), ((rr 5), .inl (g 1, 8, .inr (.inl (ct_86111 5)))), ((rr 6), .inl (g 1, 8, .inr (.inl (ct_86111 6)))), ((rr 7), .inl (g 1, 8, .inr (.inl (ct_86111 7)))), (pl, .inl (g 0, 12, .inl f_86117)), (vs, .inr (10, [.ref vs_part, .long x_86118])), (vs_part, .inl (g 1, 12, .inr (.inl f_86119)))]) [0, 1, 2, 3, 4, 5, 6, 7, 8, 9, 10, 11, 12, 13, 14, 15, 16, 17, 18, 19, 20, 21, 22, 23] rfl
        have hD9 := hD.sub (ws' := [(sv, .inr (6, [.ref n, .ref co, .ref sv_keep, .ref sv_scaled])), (co, .inr (0, [.ref n, .ref eq, .ref co_place])), (n, .inr (2, [.int n_nodes, .ref n_kind, .ref n_pay, .ref n_name, .ref n_ways, .ref n_held, .ref n_targets, .ref n_weights])), (n_kind, .inl (g 0, 12, .inl n_fkind)), (n_pay, .inl (g 0, 12, .inl n_fpay)), (n_ways, .inl (g 0, 12, .inl n_fways)), (n_held, .inl (g 0, 12, .inl n_fheld)), (n_targets, .inl (g 0, 36, .inl n_ftargets)), (n_weights, .inl (g 0, 36, .inl n_fweights)), (co_place, .inl (g 0, 12, .inl f_86114)), (eq, .inr (1, [.ref eq_rows, .ref eq_right, .long x_86115])), (eq_right, .inl (g 1, 8, .inr (.inl f_86116))), (eq_rows, .inl (g 5, 8, .inr (.inr (.inr (.inr (fun i => if i < 8 then some (rr i) else none)))))), ((rr 0), .inl (g 1, 8, .inr (.inl (ct_86111 0)))), ((rr 1), .inl (g 1, 8, .inr (.inl (ct_86111 1)))), ((rr 2), .inl (g 1, 8, .inr (.inl (ct_86111 2)))), ((rr 3), .inl (g 1, 8, .inr (.inl (ct_86111 3)))), ((rr 4), .inl (g 1, 8, .inr (.inl (ct_86111 4)))), ((rr 5), .inl (g 1, 8, .inr (.inl (ct_86111 5)))), ((rr 6), .inl (g 1, 8, .inr (.inl (ct_86111 6)))), ((rr 7), .inl (g 1, 8, .inr (.inl (ct_86111 7)))), (pl, .inl (g 0, 12, .inl f_86117)), (vs, .inr (10, [.ref vs_part, .long x_86118])), (vs_part, .inl (g 1, 12, .inr (.inl f_86119)))]) [0, 1, 2, 3, 4, 5, 6, 7, 8, 9, 10, 11, 12, 13, 14, 15, 16, 17, 18, 19, 20, 21, 22, 23] (by decide) rfl
        exact W.vret hx hb hr (fun t ht hW => ⟨⟨(), rfl, trivial, f_86114, x_86115, f_86116, f_86117, x_86118, f_86119, ct_86111, (tr_wa h_f_86114 (by decide) (by decide)), (tr_wa h_f_86117 (by decide) (by decide)), by rw [ht]; exact hP9, hD9⟩, hS.F ht⟩) hS.2.2 dX6_findWorth_52
      · skip
        have c_86121_i : ¬ (x_86113 : Int32).toInt = (0 : Int32).toInt := (fun q => c_86121 (Int32.toInt_inj.mp q))
        have h_86123 : 1 ≤ (x_86113 : Int32).toInt ∧ (x_86113 : Int32).toInt ≤ 1 := nr_ne_l h_x_86113 (⟨by decide, by decide⟩ : 0 ≤ (0 : Int32).toInt ∧ (0 : Int32).toInt ≤ 0) c_86121_i (by decide) (by decide)
        refine lv_iload hx hb dX6_findWorth_11 (lv_at hl 0 rfl) ?_
        refine lv_sipush (v := 6561) hx hb dX6_findWorth_13 (by decide) ?_
        refine lv_icmp_ge (tgt := 52) hx hb dX6_findWorth_16 (by decide) (fun c_86124 => ?_) (fun c_86124 => ?_)
        · skip
          have c_86124_i := Int32.le_iff_toInt_le.mp c_86124
          have h_86125 : 6561 ≤ (x_86112 : Int32).toInt ∧ (x_86112 : Int32).toInt ≤ 2147483647 := nr_le_r (⟨by decide, by decide⟩ : 6561 ≤ (6561 : Int32).toInt ∧ (6561 : Int32).toInt ≤ 6561) h_x_86112 c_86124_i (by decide) (by decide)
          have hP9 := hP.sub (ws' := [(sv, .inr (6, [.ref n, .ref co, .ref sv_keep, .ref sv_scaled])), (co, .inr (0, [.ref n, .ref eq, .ref co_place])), (n, .inr (2, [.int n_nodes, .ref n_kind, .ref n_pay, .ref n_name, .ref n_ways, .ref n_held, .ref n_targets, .ref n_weights])), (n_kind, .inl (g 0, 12, .inl n_fkind)), (n_pay, .inl (g 0, 12, .inl n_fpay)), (n_ways, .inl (g 0, 12, .inl n_fways)), (n_held, .inl (g 0, 12, .inl n_fheld)), (n_targets, .inl (g 0, 36, .inl n_ftargets)), (n_weights, .inl (g 0, 36, .inl n_fweights)), (co_place, .inl (g 0, 12, .inl f_86114)), (eq, .inr (1, [.ref eq_rows, .ref eq_right, .long x_86115])), (eq_right, .inl (g 1, 8, .inr (.inl f_86116))), (eq_rows, .inl (g 5, 8, .inr (.inr (.inr (.inr (fun i => if i < 8 then some (rr i) else none)))))), ((rr 0), .inl (g 1, 8, .inr (.inl (ct_86111 0)))), ((rr 1), .inl (g 1, 8, .inr (.inl (ct_86111 1)))), ((rr 2), .inl (g 1, 8, .inr (.inl (ct_86111 2)))), ((rr 3), .inl (g 1, 8, .inr (.inl (ct_86111 3)))), ((rr 4), .inl (g 1, 8, .inr (.inl (ct_86111 4)))), ((rr 5), .inl (g 1, 8, .inr (.inl (ct_86111 5)))), ((rr 6), .inl (g 1, 8, .inr (.inl (ct_86111 6)))), ((rr 7), .inl (g 1, 8, .inr (.inl (ct_86111 7)))), (pl, .inl (g 0, 12, .inl f_86117)), (vs, .inr (10, [.ref vs_part, .long x_86118])), (vs_part, .inl (g 1, 12, .inr (.inl f_86119)))]) [0, 1, 2, 3, 4, 5, 6, 7, 8, 9, 10, 11, 12, 13, 14, 15, 16, 17, 18, 19, 20, 21, 22, 23] rfl
          have hD9 := hD.sub (ws' := [(sv, .inr (6, [.ref n, .ref co, .ref sv_keep, .ref sv_scaled])), (co, .inr (0, [.ref n, .ref eq, .ref co_place])), (n, .inr (2, [.int n_nodes, .ref n_kind, .ref n_pay, .ref n_name, .ref n_ways, .ref n_held, .ref n_targets, .ref n_weights])), (n_kind, .inl (g 0, 12, .inl n_fkind)), (n_pay, .inl (g 0, 12, .inl n_fpay)), (n_ways, .inl (g 0, 12, .inl n_fways)), (n_held, .inl (g 0, 12, .inl n_fheld)), (n_targets, .inl (g 0, 36, .inl n_ftargets)), (n_weights, .inl (g 0, 36, .inl n_fweights)), (co_place, .inl (g 0, 12, .inl f_86114)), (eq, .inr (1, [.ref eq_rows, .ref eq_right, .long x_86115])), (eq_right, .inl (g 1, 8, .inr (.inl f_86116))), (eq_rows, .inl (g 5, 8, .inr (.inr (.inr (.inr (fun i => if i < 8 then some (rr i) else none)))))), ((rr 0), .inl (g 1, 8, .inr (.inl (ct_86111 0)))), ((rr 1), .inl (g 1, 8, .inr (.inl (ct_86111 1)))), ((rr 2), .inl (g 1, 8, .inr (.inl (ct_86111 2)))), ((rr 3), .inl (g 1, 8, .inr (.inl (ct_86111 3)))), ((rr 4), .inl (g 1, 8, .inr (.inl (ct_86111 4)))), ((rr 5), .inl (g 1, 8, .inr (.inl (ct_86111 5)))), ((rr 6), .inl (g 1, 8, .inr (.inl (ct_86111 6)))), ((rr 7), .inl (g 1, 8, .inr (.inl (ct_86111 7)))), (pl, .inl (g 0, 12, .inl f_86117)), (vs, .inr (10, [.ref vs_part, .long x_86118])), (vs_part, .inl (g 1, 12, .inr (.inl f_86119)))]) [0, 1, 2, 3, 4, 5, 6, 7, 8, 9, 10, 11, 12, 13, 14, 15, 16, 17, 18, 19, 20, 21, 22, 23] (by decide) rfl
          exact W.vret hx hb hr (fun t ht hW => ⟨⟨(), rfl, trivial, f_86114, x_86115, f_86116, f_86117, x_86118, f_86119, ct_86111, (tr_wa h_f_86114 (by decide) (by decide)), (tr_wa h_f_86117 (by decide) (by decide)), by rw [ht]; exact hP9, hD9⟩, hS.F ht⟩) hS.2.2 dX6_findWorth_52
        · skip
          have c_86124_i := Int32.lt_iff_toInt_lt.mp (Int32.not_le.mp c_86124)
          have h_86126 : 0 ≤ (x_86112 : Int32).toInt ∧ (x_86112 : Int32).toInt ≤ 6560 := nr_lt_l h_x_86112 (⟨by decide, by decide⟩ : 6561 ≤ (6561 : Int32).toInt ∧ (6561 : Int32).toInt ≤ 6561) c_86124_i (by decide) (by decide)
          refine lv_aload_n hx hb dX6_findWorth_19 rfl (lv_at hl 2 rfl) ?_
          refine lv_aload_n hx hb dX6_findWorth_20 rfl (lv_at hl 3 rfl) ?_
          refine lv_iload_n hx hb dX6_findWorth_21 rfl (lv_at hl 4 rfl) ?_
          refine lv_iload_n hx hb dX6_findWorth_22 rfl (lv_at hl 5 rfl) ?_
          refine lv_aload hx hb dX6_findWorth_23 (lv_at hl 6 rfl) ?_
          have hPc := hP.sub (ws' := [(sv, .inr (6, [.ref n, .ref co, .ref sv_keep, .ref sv_scaled])), (co, .inr (0, [.ref n, .ref eq, .ref co_place])), (n, .inr (2, [.int n_nodes, .ref n_kind, .ref n_pay, .ref n_name, .ref n_ways, .ref n_held, .ref n_targets, .ref n_weights])), (n_kind, .inl (g 0, 12, .inl n_fkind)), (n_pay, .inl (g 0, 12, .inl n_fpay)), (n_ways, .inl (g 0, 12, .inl n_fways)), (n_held, .inl (g 0, 12, .inl n_fheld)), (n_targets, .inl (g 0, 36, .inl n_ftargets)), (n_weights, .inl (g 0, 36, .inl n_fweights)), (co_place, .inl (g 0, 12, .inl f_86114)), (eq, .inr (1, [.ref eq_rows, .ref eq_right, .long x_86115])), (eq_right, .inl (g 1, 8, .inr (.inl f_86116))), (eq_rows, .inl (g 5, 8, .inr (.inr (.inr (.inr (fun i => if i < 8 then some (rr i) else none)))))), ((rr 0), .inl (g 1, 8, .inr (.inl (ct_86111 0)))), ((rr 1), .inl (g 1, 8, .inr (.inl (ct_86111 1)))), ((rr 2), .inl (g 1, 8, .inr (.inl (ct_86111 2)))), ((rr 3), .inl (g 1, 8, .inr (.inl (ct_86111 3)))), ((rr 4), .inl (g 1, 8, .inr (.inl (ct_86111 4)))), ((rr 5), .inl (g 1, 8, .inr (.inl (ct_86111 5)))), ((rr 6), .inl (g 1, 8, .inr (.inl (ct_86111 6)))), ((rr 7), .inl (g 1, 8, .inr (.inl (ct_86111 7)))), (pl, .inl (g 0, 12, .inl f_86117)), (vs, .inr (10, [.ref vs_part, .long x_86118])), (vs_part, .inl (g 1, 12, .inr (.inl f_86119)))]) [0, 1, 2, 3, 4, 5, 6, 7, 8, 9, 10, 11, 12, 13, 14, 15, 16, 17, 18, 19, 20, 21, 22, 23] rfl
          have hDc := hD.sub (ws' := [(sv, .inr (6, [.ref n, .ref co, .ref sv_keep, .ref sv_scaled])), (co, .inr (0, [.ref n, .ref eq, .ref co_place])), (n, .inr (2, [.int n_nodes, .ref n_kind, .ref n_pay, .ref n_name, .ref n_ways, .ref n_held, .ref n_targets, .ref n_weights])), (n_kind, .inl (g 0, 12, .inl n_fkind)), (n_pay, .inl (g 0, 12, .inl n_fpay)), (n_ways, .inl (g 0, 12, .inl n_fways)), (n_held, .inl (g 0, 12, .inl n_fheld)), (n_targets, .inl (g 0, 36, .inl n_ftargets)), (n_weights, .inl (g 0, 36, .inl n_fweights)), (co_place, .inl (g 0, 12, .inl f_86114)), (eq, .inr (1, [.ref eq_rows, .ref eq_right, .long x_86115])), (eq_right, .inl (g 1, 8, .inr (.inl f_86116))), (eq_rows, .inl (g 5, 8, .inr (.inr (.inr (.inr (fun i => if i < 8 then some (rr i) else none)))))), ((rr 0), .inl (g 1, 8, .inr (.inl (ct_86111 0)))), ((rr 1), .inl (g 1, 8, .inr (.inl (ct_86111 1)))), ((rr 2), .inl (g 1, 8, .inr (.inl (ct_86111 2)))), ((rr 3), .inl (g 1, 8, .inr (.inl (ct_86111 3)))), ((rr 4), .inl (g 1, 8, .inr (.inl (ct_86111 4)))), ((rr 5), .inl (g 1, 8, .inr (.inl (ct_86111 5)))), ((rr 6), .inl (g 1, 8, .inr (.inl (ct_86111 6)))), ((rr 7), .inl (g 1, 8, .inr (.inl (ct_86111 7)))), (pl, .inl (g 0, 12, .inl f_86117)), (vs, .inr (10, [.ref vs_part, .long x_86118])), (vs_part, .inl (g 1, 12, .inr (.inl f_86119)))]) [0, 1, 2, 3, 4, 5, 6, 7, 8, 9, 10, 11, 12, 13, 14, 15, 16, 17, 18, 19, 20, 21, 22, 23] (by decide) rfl
          have hFc := va_free (wc := [(sv, .inr (6, [.ref n, .ref co, .ref sv_keep, .ref sv_scaled])), (co, .inr (0, [.ref n, .ref eq, .ref co_place])), (n, .inr (2, [.int n_nodes, .ref n_kind, .ref n_pay, .ref n_name, .ref n_ways, .ref n_held, .ref n_targets, .ref n_weights])), (n_kind, .inl (g 0, 12, .inl n_fkind)), (n_pay, .inl (g 0, 12, .inl n_fpay)), (n_ways, .inl (g 0, 12, .inl n_fways)), (n_held, .inl (g 0, 12, .inl n_fheld)), (n_targets, .inl (g 0, 36, .inl n_ftargets)), (n_weights, .inl (g 0, 36, .inl n_fweights)), (co_place, .inl (g 0, 12, .inl f_86114)), (eq, .inr (1, [.ref eq_rows, .ref eq_right, .long x_86115])), (eq_right, .inl (g 1, 8, .inr (.inl f_86116))), (eq_rows, .inl (g 5, 8, .inr (.inr (.inr (.inr (fun i => if i < 8 then some (rr i) else none)))))), ((rr 0), .inl (g 1, 8, .inr (.inl (ct_86111 0)))), ((rr 1), .inl (g 1, 8, .inr (.inl (ct_86111 1)))), ((rr 2), .inl (g 1, 8, .inr (.inl (ct_86111 2)))), ((rr 3), .inl (g 1, 8, .inr (.inl (ct_86111 3)))), ((rr 4), .inl (g 1, 8, .inr (.inl (ct_86111 4)))), ((rr 5), .inl (g 1, 8, .inr (.inl (ct_86111 5)))), ((rr 6), .inl (g 1, 8, .inr (.inl (ct_86111 6)))), ((rr 7), .inl (g 1, 8, .inr (.inl (ct_86111 7)))), (pl, .inl (g 0, 12, .inl f_86117)), (vs, .inr (10, [.ref vs_part, .long x_86118])), (vs_part, .inl (g 1, 12, .inr (.inl f_86119)))]) hD hS hA [0, 1, 2, 3, 4, 5, 6, 7, 8, 9, 10, 11, 12, 13, 14, 15, 16, 17, 18, 19, 20, 21, 22, 23] rfl
          refine va_callv (va_runV (As := [.ref pl, .int p0, .int p1, .ref vs]) (rest := []) ⟨hx, hb, hml, hown, hts⟩ (c_X6_findLeft l D g H.size sv pl p0 p1 vs n co sv_keep sv_scaled eq co_place n_nodes n_kind n_pay n_name n_ways n_held n_targets n_weights n_fkind n_fpay n_fways n_fheld n_ftargets n_fweights f_86114 eq_rows eq_right x_86115 f_86116 rr ct_86111 f_86117 vs_part x_86118 f_86119 (tr_w h_n_nodes (by decide) (by decide)) (tr_wa h_n_fkind (by decide) (by decide)) (tr_wa h_n_fways (by decide) (by decide)) (tr_wa h_n_fheld (by decide) (by decide)) (tr_wa h_n_ftargets (by decide) (by decide)) (tr_wa h_f_86114 (by decide) (by decide)) (tr_wa h_f_86117 (by decide) (by decide))) (cwV 4 hts (tz_gV qw_579 qw_580 qw_581 qw_558 qw_582) rfl rfl rfl (by decide +kernel) ⟨Nat.le_of_ble_eq_true rfl, Nat.le_of_ble_eq_true rfl⟩) ⟨tz_blQ, va_recv hK hPc (ci := 6) (q0 := 0) rfl rfl, tz_preQ hPc hK hDc⟩ rfl rfl hl.1 rfl (lv_room (Nat.le_of_ble_eq_true rfl)) dX6_findWorth_25 ⟨Nat.le_of_ble_eq_true rfl, Nat.le_of_ble_eq_true rfl⟩) hS (fun q _ h => hFc q h) hFc (fun u t H1 locs ht hvm hw hB hz1 hk1 hS => ?_)
          obtain ⟨opc_86128, oew_86129, ofr_86130, opl_86131, ovw_86132, ovp_86133, oct_86134, hf_86135, hf_86136, hP1, hD1⟩ := hB
          rw [ht] at hP1
          obtain ⟨hP, hD⟩ := va_join (wr := []) (w1 := [(sv, .inr (6, [.ref n, .ref co, .ref sv_keep, .ref sv_scaled])), (co, .inr (0, [.ref n, .ref eq, .ref co_place])), (n, .inr (2, [.int n_nodes, .ref n_kind, .ref n_pay, .ref n_name, .ref n_ways, .ref n_held, .ref n_targets, .ref n_weights])), (n_kind, .inl (g 0, 12, .inl n_fkind)), (n_pay, .inl (g 0, 12, .inl n_fpay)), (n_ways, .inl (g 0, 12, .inl n_fways)), (n_held, .inl (g 0, 12, .inl n_fheld)), (n_targets, .inl (g 0, 36, .inl n_ftargets)), (n_weights, .inl (g 0, 36, .inl n_fweights)), (co_place, .inl (g 0, 12, .inl opc_86128)), (eq, .inr (1, [.ref eq_rows, .ref eq_right, .long oew_86129])), (eq_right, .inl (g 1, 8, .inr (.inl ofr_86130))), (eq_rows, .inl (g 5, 8, .inr (.inr (.inr (.inr (fun i => if i < 8 then some (rr i) else none)))))), ((rr 0), .inl (g 1, 8, .inr (.inl (oct_86134 0)))), ((rr 1), .inl (g 1, 8, .inr (.inl (oct_86134 1)))), ((rr 2), .inl (g 1, 8, .inr (.inl (oct_86134 2)))), ((rr 3), .inl (g 1, 8, .inr (.inl (oct_86134 3)))), ((rr 4), .inl (g 1, 8, .inr (.inl (oct_86134 4)))), ((rr 5), .inl (g 1, 8, .inr (.inl (oct_86134 5)))), ((rr 6), .inl (g 1, 8, .inr (.inl (oct_86134 6)))), ((rr 7), .inl (g 1, 8, .inr (.inl (oct_86134 7)))), (pl, .inl (g 0, 12, .inl opl_86131)), (vs, .inr (10, [.ref vs_part, .long ovw_86132])), (vs_part, .inl (g 1, 12, .inr (.inl ovp_86133)))]) hP hD [0, 1, 2, 3, 4, 5, 6, 7, 8, 9, 10, 11, 12, 13, 14, 15, 16, 17, 18, 19, 20, 21, 22, 23] [] rfl rfl (by decide) (by decide) hk1 hFc hP1 hD1
          generalize H1 = H at hP hS ⊢
          have hP : va_P D vwCl [(sv, .inr (6, [.ref n, .ref co, .ref sv_keep, .ref sv_scaled])), (co, .inr (0, [.ref n, .ref eq, .ref co_place])), (n, .inr (2, [.int n_nodes, .ref n_kind, .ref n_pay, .ref n_name, .ref n_ways, .ref n_held, .ref n_targets, .ref n_weights])), (n_kind, .inl (g 0, 12, .inl n_fkind)), (n_pay, .inl (g 0, 12, .inl n_fpay)), (n_ways, .inl (g 0, 12, .inl n_fways)), (n_held, .inl (g 0, 12, .inl n_fheld)), (n_targets, .inl (g 0, 36, .inl n_ftargets)), (n_weights, .inl (g 0, 36, .inl n_fweights)), (co_place, .inl (g 0, 12, .inl opc_86128)), (eq, .inr (1, [.ref eq_rows, .ref eq_right, .long oew_86129])), (eq_right, .inl (g 1, 8, .inr (.inl ofr_86130))), (eq_rows, .inl (g 5, 8, .inr (.inr (.inr (.inr (fun i => if i < 8 then some (rr i) else none)))))), ((rr 0), .inl (g 1, 8, .inr (.inl (oct_86134 0)))), ((rr 1), .inl (g 1, 8, .inr (.inl (oct_86134 1)))), ((rr 2), .inl (g 1, 8, .inr (.inl (oct_86134 2)))), ((rr 3), .inl (g 1, 8, .inr (.inl (oct_86134 3)))), ((rr 4), .inl (g 1, 8, .inr (.inl (oct_86134 4)))), ((rr 5), .inl (g 1, 8, .inr (.inl (oct_86134 5)))), ((rr 6), .inl (g 1, 8, .inr (.inl (oct_86134 6)))), ((rr 7), .inl (g 1, 8, .inr (.inl (oct_86134 7)))), (pl, .inl (g 0, 12, .inl opl_86131)), (vs, .inr (10, [.ref vs_part, .long ovw_86132])), (vs_part, .inl (g 1, 12, .inr (.inl ovp_86133)))] H := hP
          have hD : va_D A [(sv, .inr (6, [.ref n, .ref co, .ref sv_keep, .ref sv_scaled])), (co, .inr (0, [.ref n, .ref eq, .ref co_place])), (n, .inr (2, [.int n_nodes, .ref n_kind, .ref n_pay, .ref n_name, .ref n_ways, .ref n_held, .ref n_targets, .ref n_weights])), (n_kind, .inl (g 0, 12, .inl n_fkind)), (n_pay, .inl (g 0, 12, .inl n_fpay)), (n_ways, .inl (g 0, 12, .inl n_fways)), (n_held, .inl (g 0, 12, .inl n_fheld)), (n_targets, .inl (g 0, 36, .inl n_ftargets)), (n_weights, .inl (g 0, 36, .inl n_fweights)), (co_place, .inl (g 0, 12, .inl opc_86128)), (eq, .inr (1, [.ref eq_rows, .ref eq_right, .long oew_86129])), (eq_right, .inl (g 1, 8, .inr (.inl ofr_86130))), (eq_rows, .inl (g 5, 8, .inr (.inr (.inr (.inr (fun i => if i < 8 then some (rr i) else none)))))), ((rr 0), .inl (g 1, 8, .inr (.inl (oct_86134 0)))), ((rr 1), .inl (g 1, 8, .inr (.inl (oct_86134 1)))), ((rr 2), .inl (g 1, 8, .inr (.inl (oct_86134 2)))), ((rr 3), .inl (g 1, 8, .inr (.inl (oct_86134 3)))), ((rr 4), .inl (g 1, 8, .inr (.inl (oct_86134 4)))), ((rr 5), .inl (g 1, 8, .inr (.inl (oct_86134 5)))), ((rr 6), .inl (g 1, 8, .inr (.inl (oct_86134 6)))), ((rr 7), .inl (g 1, 8, .inr (.inl (oct_86134 7)))), (pl, .inl (g 0, 12, .inl opl_86131)), (vs, .inr (10, [.ref vs_part, .long ovw_86132])), (vs_part, .inl (g 1, 12, .inr (.inl ovp_86133)))] := hD
          refine lv_aload_n hx hb dX6_findWorth_28 rfl (lv_at hl 2 rfl) ?_
          refine lv_iconst (v := 1) hx hb dX6_findWorth_29 (by decide) ?_
          refine lv_aload_n hx hb dX6_findWorth_30 rfl (lv_at hl 3 rfl) ?_
          refine lv_aload hx hb dX6_findWorth_31 (lv_at hl 6 rfl) ?_
          have hPc := hP.sub (ws' := [(sv, .inr (6, [.ref n, .ref co, .ref sv_keep, .ref sv_scaled])), (n, .inr (2, [.int n_nodes, .ref n_kind, .ref n_pay, .ref n_name, .ref n_ways, .ref n_held, .ref n_targets, .ref n_weights])), (n_kind, .inl (g 0, 12, .inl n_fkind)), (n_ways, .inl (g 0, 12, .inl n_fways)), (n_held, .inl (g 0, 12, .inl n_fheld)), (n_targets, .inl (g 0, 36, .inl n_ftargets)), (vs, .inr (10, [.ref vs_part, .long ovw_86132])), (vs_part, .inl (g 1, 12, .inr (.inl ovp_86133))), (pl, .inl (g 0, 12, .inl opl_86131))]) [0, 2, 3, 5, 6, 7, 22, 23, 21] rfl
          have hDc := hD.sub (ws' := [(sv, .inr (6, [.ref n, .ref co, .ref sv_keep, .ref sv_scaled])), (n, .inr (2, [.int n_nodes, .ref n_kind, .ref n_pay, .ref n_name, .ref n_ways, .ref n_held, .ref n_targets, .ref n_weights])), (n_kind, .inl (g 0, 12, .inl n_fkind)), (n_ways, .inl (g 0, 12, .inl n_fways)), (n_held, .inl (g 0, 12, .inl n_fheld)), (n_targets, .inl (g 0, 36, .inl n_ftargets)), (vs, .inr (10, [.ref vs_part, .long ovw_86132])), (vs_part, .inl (g 1, 12, .inr (.inl ovp_86133))), (pl, .inl (g 0, 12, .inl opl_86131))]) [0, 2, 3, 5, 6, 7, 22, 23, 21] (by decide) rfl
          have hFc := va_free (wc := [(sv, .inr (6, [.ref n, .ref co, .ref sv_keep, .ref sv_scaled])), (n, .inr (2, [.int n_nodes, .ref n_kind, .ref n_pay, .ref n_name, .ref n_ways, .ref n_held, .ref n_targets, .ref n_weights])), (n_kind, .inl (g 0, 12, .inl n_fkind)), (n_ways, .inl (g 0, 12, .inl n_fways)), (n_held, .inl (g 0, 12, .inl n_fheld)), (n_targets, .inl (g 0, 36, .inl n_ftargets)), (vs, .inr (10, [.ref vs_part, .long ovw_86132])), (vs_part, .inl (g 1, 12, .inr (.inl ovp_86133))), (pl, .inl (g 0, 12, .inl opl_86131))]) hD hS hA [0, 2, 3, 5, 6, 7, 22, 23, 21] rfl
          refine va_calli (va_runV (As := [.int 1, .ref pl, .ref vs]) (rest := []) ⟨hx, hb, hml, hown, hts⟩ (c_X6_turn l D g H.size sv 1 pl vs n co sv_keep sv_scaled n_nodes n_kind n_pay n_name n_ways n_held n_targets n_weights n_fkind n_fways n_fheld n_ftargets vs_part ovw_86132 ovp_86133 opl_86131 (tr_w h_n_nodes (by decide) (by decide)) (tr_wa h_n_fkind (by decide) (by decide)) (tr_wa h_n_fways (by decide) (by decide)) (tr_wa h_n_fheld (by decide) (by decide)) (tr_wa h_n_ftargets (by decide) (by decide)) (tr_wa hf_86136 (by decide) (by decide))) (cwV 3 hts (tz_gV qw_583 qw_584 qw_585 qw_558 qw_586) rfl rfl rfl (by decide +kernel) ⟨Nat.le_of_ble_eq_true rfl, Nat.le_of_ble_eq_true rfl⟩) ⟨tz_blQ, va_recv hK hPc (ci := 6) (q0 := 0) rfl rfl, tz_preQ hPc hK hDc⟩ rfl rfl hl.1 rfl (lv_room (Nat.le_of_ble_eq_true rfl)) dX6_findWorth_33 ⟨Nat.le_of_ble_eq_true rfl, Nat.le_of_ble_eq_true rfl⟩) hS (fun q _ h => hFc q h) hFc (fun r_86137 u t H1 locs ht hvm hw hB hz1 hk1 hS => ?_)
          obtain ⟨opl_86138, hf_86139, hP1, hD1⟩ := hB
          rw [ht] at hP1
          obtain ⟨hP, hD⟩ := va_join (wr := [(co, .inr (0, [.ref n, .ref eq, .ref co_place])), (n_pay, .inl (g 0, 12, .inl n_fpay)), (n_weights, .inl (g 0, 36, .inl n_fweights)), (co_place, .inl (g 0, 12, .inl opc_86128)), (eq, .inr (1, [.ref eq_rows, .ref eq_right, .long oew_86129])), (eq_right, .inl (g 1, 8, .inr (.inl ofr_86130))), (eq_rows, .inl (g 5, 8, .inr (.inr (.inr (.inr (fun i => if i < 8 then some (rr i) else none)))))), ((rr 0), .inl (g 1, 8, .inr (.inl (oct_86134 0)))), ((rr 1), .inl (g 1, 8, .inr (.inl (oct_86134 1)))), ((rr 2), .inl (g 1, 8, .inr (.inl (oct_86134 2)))), ((rr 3), .inl (g 1, 8, .inr (.inl (oct_86134 3)))), ((rr 4), .inl (g 1, 8, .inr (.inl (oct_86134 4)))), ((rr 5), .inl (g 1, 8, .inr (.inl (oct_86134 5)))), ((rr 6), .inl (g 1, 8, .inr (.inl (oct_86134 6)))), ((rr 7), .inl (g 1, 8, .inr (.inl (oct_86134 7))))]) (w1 := [(sv, .inr (6, [.ref n, .ref co, .ref sv_keep, .ref sv_scaled])), (n, .inr (2, [.int n_nodes, .ref n_kind, .ref n_pay, .ref n_name, .ref n_ways, .ref n_held, .ref n_targets, .ref n_weights])), (n_kind, .inl (g 0, 12, .inl n_fkind)), (n_ways, .inl (g 0, 12, .inl n_fways)), (n_held, .inl (g 0, 12, .inl n_fheld)), (n_targets, .inl (g 0, 36, .inl n_ftargets)), (vs, .inr (10, [.ref vs_part, .long ovw_86132])), (vs_part, .inl (g 1, 12, .inr (.inl ovp_86133))), (pl, .inl (g 0, 12, .inl opl_86138))]) hP hD [0, 2, 3, 5, 6, 7, 22, 23, 21] [1, 4, 8, 9, 10, 11, 12, 13, 14, 15, 16, 17, 18, 19, 20] rfl rfl (by decide) (by decide) hk1 hFc hP1 hD1
          generalize H1 = H at hP hS ⊢
          have hP : va_P D vwCl [(co, .inr (0, [.ref n, .ref eq, .ref co_place])), (n_pay, .inl (g 0, 12, .inl n_fpay)), (n_weights, .inl (g 0, 36, .inl n_fweights)), (co_place, .inl (g 0, 12, .inl opc_86128)), (eq, .inr (1, [.ref eq_rows, .ref eq_right, .long oew_86129])), (eq_right, .inl (g 1, 8, .inr (.inl ofr_86130))), (eq_rows, .inl (g 5, 8, .inr (.inr (.inr (.inr (fun i => if i < 8 then some (rr i) else none)))))), ((rr 0), .inl (g 1, 8, .inr (.inl (oct_86134 0)))), ((rr 1), .inl (g 1, 8, .inr (.inl (oct_86134 1)))), ((rr 2), .inl (g 1, 8, .inr (.inl (oct_86134 2)))), ((rr 3), .inl (g 1, 8, .inr (.inl (oct_86134 3)))), ((rr 4), .inl (g 1, 8, .inr (.inl (oct_86134 4)))), ((rr 5), .inl (g 1, 8, .inr (.inl (oct_86134 5)))), ((rr 6), .inl (g 1, 8, .inr (.inl (oct_86134 6)))), ((rr 7), .inl (g 1, 8, .inr (.inl (oct_86134 7)))), (sv, .inr (6, [.ref n, .ref co, .ref sv_keep, .ref sv_scaled])), (n, .inr (2, [.int n_nodes, .ref n_kind, .ref n_pay, .ref n_name, .ref n_ways, .ref n_held, .ref n_targets, .ref n_weights])), (n_kind, .inl (g 0, 12, .inl n_fkind)), (n_ways, .inl (g 0, 12, .inl n_fways)), (n_held, .inl (g 0, 12, .inl n_fheld)), (n_targets, .inl (g 0, 36, .inl n_ftargets)), (vs, .inr (10, [.ref vs_part, .long ovw_86132])), (vs_part, .inl (g 1, 12, .inr (.inl ovp_86133))), (pl, .inl (g 0, 12, .inl opl_86138))] H := hP
          have hD : va_D A [(co, .inr (0, [.ref n, .ref eq, .ref co_place])), (n_pay, .inl (g 0, 12, .inl n_fpay)), (n_weights, .inl (g 0, 36, .inl n_fweights)), (co_place, .inl (g 0, 12, .inl opc_86128)), (eq, .inr (1, [.ref eq_rows, .ref eq_right, .long oew_86129])), (eq_right, .inl (g 1, 8, .inr (.inl ofr_86130))), (eq_rows, .inl (g 5, 8, .inr (.inr (.inr (.inr (fun i => if i < 8 then some (rr i) else none)))))), ((rr 0), .inl (g 1, 8, .inr (.inl (oct_86134 0)))), ((rr 1), .inl (g 1, 8, .inr (.inl (oct_86134 1)))), ((rr 2), .inl (g 1, 8, .inr (.inl (oct_86134 2)))), ((rr 3), .inl (g 1, 8, .inr (.inl (oct_86134 3)))), ((rr 4), .inl (g 1, 8, .inr (.inl (oct_86134 4)))), ((rr 5), .inl (g 1, 8, .inr (.inl (oct_86134 5)))), ((rr 6), .inl (g 1, 8, .inr (.inl (oct_86134 6)))), ((rr 7), .inl (g 1, 8, .inr (.inl (oct_86134 7)))), (sv, .inr (6, [.ref n, .ref co, .ref sv_keep, .ref sv_scaled])), (n, .inr (2, [.int n_nodes, .ref n_kind, .ref n_pay, .ref n_name, .ref n_ways, .ref n_held, .ref n_targets, .ref n_weights])), (n_kind, .inl (g 0, 12, .inl n_fkind)), (n_ways, .inl (g 0, 12, .inl n_fways)), (n_held, .inl (g 0, 12, .inl n_fheld)), (n_targets, .inl (g 0, 36, .inl n_ftargets)), (vs, .inr (10, [.ref vs_part, .long ovw_86132])), (vs_part, .inl (g 1, 12, .inr (.inl ovp_86133))), (pl, .inl (g 0, 12, .inl opl_86138))] := hD
          refine lv_if_le (tgt := 43) hx hb dX6_findWorth_36 (by decide) (fun c_86140 => ?_) (fun c_86140 => ?_)
          · skip
            have c_86140_i := Int32.le_iff_toInt_le.mp c_86140
            have h_86141 : (-2147483648) ≤ (r_86137 : Int32).toInt ∧ (r_86137 : Int32).toInt ≤ 0 := nr_le_l (tr_any r_86137) (⟨by decide, by decide⟩ : 0 ≤ (0 : Int32).toInt ∧ (0 : Int32).toInt ≤ 0) c_86140_i (by decide) (by decide)
            refine lv_iconst (v := 0) hx hb dX6_findWorth_43 (by decide) ?_
            refine lv_istore (lv' := [(5, .int 0), (6, .int x_86112), (0, .ref sv), (1, .ref pl), (2, .int p0), (3, .int p1), (4, .ref vs)]) hx hb dX6_findWorth_44 hl (by decide) rfl (fun ls hl => ?_)
            obtain ⟨v_86143, v_86143_e⟩ : ∃ y : Int32, y = x_86112 + Int32.ofInt 1 := ⟨_, rfl⟩
            have h_v_86143 : 1 ≤ (v_86143 : Int32).toInt ∧ (v_86143 : Int32).toInt ≤ 6561 := by rw [v_86143_e]; exact tr_add h_86126 (⟨by decide, by decide⟩ : 1 ≤ (Int32.ofInt 1 : Int32).toInt ∧ (Int32.ofInt 1 : Int32).toInt ≤ 1) (by decide) (by decide) (by decide) (by decide)
            have q_v_86143 : v_86143.toInt = x_86112.toInt + 1 := by rw [v_86143_e]; exact tr_addE h_86126 (⟨by decide, by decide⟩ : 1 ≤ (Int32.ofInt 1 : Int32).toInt ∧ (Int32.ofInt 1 : Int32).toInt ≤ 1) (by decide) (by decide)
            refine lv_iinc (v := v_86143) (lv' := [(6, .int v_86143), (5, .int 0), (0, .ref sv), (1, .ref pl), (2, .int p0), (3, .int p1), (4, .ref vs)]) hx hb dX6_findWorth_46 hl (k := 1) rfl v_86143_e.symm (by decide) rfl (fun ls hl => ?_)
            refine lv_goto (tgt := 6) hx hb dX6_findWorth_49 (by decide) ?_
            exact ih_86120 oct_86134 v_86143 0 opc_86128 oew_86129 ofr_86130 opl_86138 ovw_86132 ovp_86133 H _ ls (tr_w h_v_86143 (by decide) (by decide)) (⟨by decide, by decide⟩ : 0 ≤ (0 : Int32).toInt ∧ (0 : Int32).toInt ≤ 1) (tr_wa hf_86135 (by decide) (by decide)) (tr_wa hf_86139 (by decide) (by decide)) (by (first | (clear h_x_86113 h_f_86114 h_f_86117 c_86121_i h_86123 c_86140_i h_86141; omega) | omega)) (hP.sub [15, 0, 16, 17, 1, 18, 19, 20, 2, 3, 4, 5, 6, 7, 8, 9, 10, 11, 12, 13, 14, 23, 21, 22] rfl) (hD.sub [15, 0, 16, 17, 1, 18, 19, 20, 2, 3, 4, 5, 6, 7, 8, 9, 10, 11, 12, 13, 14, 23, 21, 22] (by decide) rfl) hS (lv_sub hl [0, 1, 2, 3, 4, 5, 6] rfl)
          · skip
            have c_86140_i := Int32.lt_iff_toInt_lt.mp (Int32.not_le.mp c_86140)
            have h_86142 : 1 ≤ (r_86137 : Int32).toInt ∧ (r_86137 : Int32).toInt ≤ 2147483647 := nr_lt_r (⟨by decide, by decide⟩ : 0 ≤ (0 : Int32).toInt ∧ (0 : Int32).toInt ≤ 0) (tr_any r_86137) c_86140_i (by decide) (by decide)
            refine lv_iconst (v := 1) hx hb dX6_findWorth_39 (by decide) ?_
            refine lv_goto (tgt := 44) hx hb dX6_findWorth_40 (by decide) ?_
            refine lv_istore (lv' := [(5, .int 1), (6, .int x_86112), (0, .ref sv), (1, .ref pl), (2, .int p0), (3, .int p1), (4, .ref vs)]) hx hb dX6_findWorth_44 hl (by decide) rfl (fun ls hl => ?_)
            obtain ⟨v_86144, v_86144_e⟩ : ∃ y : Int32, y = x_86112 + Int32.ofInt 1 := ⟨_, rfl⟩
            have h_v_86144 : 1 ≤ (v_86144 : Int32).toInt ∧ (v_86144 : Int32).toInt ≤ 6561 := by rw [v_86144_e]; exact tr_add h_86126 (⟨by decide, by decide⟩ : 1 ≤ (Int32.ofInt 1 : Int32).toInt ∧ (Int32.ofInt 1 : Int32).toInt ≤ 1) (by decide) (by decide) (by decide) (by decide)
            have q_v_86144 : v_86144.toInt = x_86112.toInt + 1 := by rw [v_86144_e]; exact tr_addE h_86126 (⟨by decide, by decide⟩ : 1 ≤ (Int32.ofInt 1 : Int32).toInt ∧ (Int32.ofInt 1 : Int32).toInt ≤ 1) (by decide) (by decide)
            refine lv_iinc (v := v_86144) (lv' := [(6, .int v_86144), (5, .int 1), (0, .ref sv), (1, .ref pl), (2, .int p0), (3, .int p1), (4, .ref vs)]) hx hb dX6_findWorth_46 hl (k := 1) rfl v_86144_e.symm (by decide) rfl (fun ls hl => ?_)
            refine lv_goto (tgt := 6) hx hb dX6_findWorth_49 (by decide) ?_
            exact ih_86120 oct_86134 v_86144 1 opc_86128 oew_86129 ofr_86130 opl_86138 ovw_86132 ovp_86133 H _ ls (tr_w h_v_86144 (by decide) (by decide)) (⟨by decide, by decide⟩ : 0 ≤ (1 : Int32).toInt ∧ (1 : Int32).toInt ≤ 1) (tr_wa hf_86135 (by decide) (by decide)) (tr_wa hf_86139 (by decide) (by decide)) (by (first | (clear h_x_86113 h_f_86114 h_f_86117 c_86121_i h_86123 c_86140_i h_86142; omega) | omega)) (hP.sub [15, 0, 16, 17, 1, 18, 19, 20, 2, 3, 4, 5, 6, 7, 8, 9, 10, 11, 12, 13, 14, 23, 21, 22] rfl) (hD.sub [15, 0, 16, 17, 1, 18, 19, 20, 2, 3, 4, 5, 6, 7, 8, 9, 10, 11, 12, 13, 14, 23, 21, 22] (by decide) rfl) hS (lv_sub hl [0, 1, 2, 3, 4, 5, 6] rfl)
  exact lp_86120 2147483648 ct 0 1 pcf ew fr plf vsw vsp s.heap _ ls (⟨by decide, by decide⟩ : 0 ≤ (0 : Int32).toInt ∧ (0 : Int32).toInt ≤ 2147483647) (⟨by decide, by decide⟩ : 0 ≤ (1 : Int32).toInt ∧ (1 : Int32).toInt ≤ 1) (tr_wa h_pcf (by decide) (by decide)) (tr_wa h_plf (by decide) (by decide)) (by decide) (hP.sub [0, 1, 2, 3, 4, 5, 6, 7, 8, 9, 10, 11, 12, 13, 14, 15, 16, 17, 18, 19, 20, 21, 22, 23] rfl) (hD.sub [0, 1, 2, 3, 4, 5, 6, 7, 8, 9, 10, 11, 12, 13, 14, 15, 16, 17, 18, 19, 20, 21, 22, 23] (by decide) rfl) hS (lv_sub hl [0, 1, 2, 3, 4, 5, 6] rfl)
set_option maxHeartbeats 4000000 in
set_option maxRecDepth 100000 in
theorem c_X6_lowest (l : Launch) (D : va_G) (g : Nat → ClassId) (p0 : Int32) : Met l yX6_lowest (.code yX6_lowest cX6_lowest 2 (some .int) :: wsL_law) ({ frames := 0, cells := 0, slots := 0, locals := 0 }) (va_Pc [.int p0] (fun U => va_P D vwCl [] U.heap ∧ va_K D vwCl (TY g) U)) (vp_Si (fun r => 0 ≤ (r : Int32).toInt ∧ (r : Int32).toInt ≤ 2)) 0 0 (fun _ => False) := by
  refine Met.ofW (cc := cX6_lowest) (maxL := 2) (ret := (some .int)) (by decide) rfl ?_
  intro p e s m args below meth c s₁ B hml hv
  obtain ⟨ha, hP, hK⟩ := hv
  have hx := B.exec
  have hb := B.bytes
  have hr := B.returns
  have hts0 := atoms_spec (ws := (.code yX6_lowest cX6_lowest 2 (some .int) :: wsL_law)) B.pre
  have hts : ∀ w ∈ wsL_law, w.before args s = true := fun w h => hts0 w (List.mem_cons_of_mem _ h)
  have hown : s.vm.findClass RX6 = some m.cls := findClass_of_methodNamed B.named
  have hlocks := B.notSynchronized
  have hP : va_P D vwCl [] s.heap := hP
  refine W.eq (g2 := entryFrame m ([.int p0] : List Value).toArray 2) (by rw [ha]) ?_
  have hl := lv_entry ([.int p0]) (n := 2) (Nat.le_of_ble_eq_true rfl)
  rw [lg_entry_eq]
  generalize (lg_sl ([.int p0]) ++ List.replicate (2 - (lg_sl ([.int p0])).length) Slot.unset).toArray = ls at hl ⊢
  have hl : lv_has ls 2 [(0, .int p0)] := hl
  refine lv_iconst (v := 0) hx hb dX6_lowest_0 (by decide) ?_
  refine lv_istore_n (lv' := [(1, .int 0), (0, .int p0)]) hx hb dX6_lowest_1 rfl hl (by decide) rfl (fun ls hl => ?_)
  have lp_86173 : ∀ (n_86173 : Nat) (x_86172 : Int32) (ls : Array Slot), (0 ≤ (x_86172 : Int32).toInt ∧ (x_86172 : Int32).toInt ≤ 3) → (3 - x_86172.toInt < (n_86173 : Int)) → lv_has ls 2 [(1, .int x_86172), (0, .int p0)] → W p l e (headSpec (.code yX6_lowest cX6_lowest 2 (some .int) :: wsL_law) ({ frames := 0, cells := 0, slots := 0, locals := 0 })).room s m args below meth c s.heap [] 0 0 (MQ below (vp_Si (fun r => 0 ≤ (r : Int32).toInt ∧ (r : Int32).toInt ≤ 2)) args s 0 0 (fun _ => False)) (F0 m 2 ls []) := by
    intro n_86173
    induction n_86173 with
    | zero =>
      intro x_86172 ls h_x_86172 hm_86173 hl
      exfalso; omega
    | succ n_86173 ih_86173 =>
      intro x_86172 ls h_x_86172 hm_86173 hl
      refine lv_iload_n hx hb dX6_lowest_2 rfl (lv_at hl 0 rfl) ?_
      refine lv_iconst (v := 3) hx hb dX6_lowest_3 (by decide) ?_
      refine lv_icmp_ge (tgt := 23) hx hb dX6_lowest_4 (by decide) (fun c_86174 => ?_) (fun c_86174 => ?_)
      · skip
        have c_86174_i := Int32.le_iff_toInt_le.mp c_86174
        have h_86175 : 3 ≤ (x_86172 : Int32).toInt ∧ (x_86172 : Int32).toInt ≤ 3 := nr_le_r (⟨by decide, by decide⟩ : 3 ≤ (3 : Int32).toInt ∧ (3 : Int32).toInt ≤ 3) h_x_86172 c_86174_i (by decide) (by decide)
        refine lv_iconst (v := 0) hx hb dX6_lowest_23 (by decide) ?_
        exact W.iret (v := 0) hx hb hr (fun t ht hW => ⟨0, rfl, (⟨by decide, by decide⟩ : 0 ≤ (0 : Int32).toInt ∧ (0 : Int32).toInt ≤ 2), ht⟩) (fun _ h => nomatch h) dX6_lowest_24
      · skip
        have c_86174_i := Int32.lt_iff_toInt_lt.mp (Int32.not_le.mp c_86174)
        have h_86176 : 0 ≤ (x_86172 : Int32).toInt ∧ (x_86172 : Int32).toInt ≤ 2 := nr_lt_l h_x_86172 (⟨by decide, by decide⟩ : 3 ≤ (3 : Int32).toInt ∧ (3 : Int32).toInt ≤ 3) c_86174_i (by decide) (by decide)
        refine lv_iload_n hx hb dX6_lowest_7 rfl (lv_at hl 1 rfl) ?_
        refine lv_iload_n hx hb dX6_lowest_8 rfl (lv_at hl 0 rfl) ?_
        refine lv_ishr hx hb dX6_lowest_9 ?_
        refine lv_topi (fun v_86177 v_86177_e => ?_)
        refine lv_iconst (v := 1) hx hb dX6_lowest_10 (by decide) ?_
        refine lv_iand hx hb dX6_lowest_11 ?_
        refine lv_topi (fun v_86178 v_86178_e => ?_)
        refine lv_if_eq (tgt := 17) hx hb dX6_lowest_12 (by decide) (fun c_86179 => ?_) (fun c_86179 => ?_)
        · skip
          have h_86180 : 0 ≤ (v_86178 : Int32).toInt ∧ (v_86178 : Int32).toInt ≤ 0 := by rw [c_86179]; exact ⟨by decide, by decide⟩
          obtain ⟨v_86181, v_86181_e⟩ : ∃ y : Int32, y = x_86172 + Int32.ofInt 1 := ⟨_, rfl⟩
          have h_v_86181 : 1 ≤ (v_86181 : Int32).toInt ∧ (v_86181 : Int32).toInt ≤ 3 := by rw [v_86181_e]; exact tr_add h_86176 (⟨by decide, by decide⟩ : 1 ≤ (Int32.ofInt 1 : Int32).toInt ∧ (Int32.ofInt 1 : Int32).toInt ≤ 1) (by decide) (by decide) (by decide) (by decide)
          have q_v_86181 : v_86181.toInt = x_86172.toInt + 1 := by rw [v_86181_e]; exact tr_addE h_86176 (⟨by decide, by decide⟩ : 1 ≤ (Int32.ofInt 1 : Int32).toInt ∧ (Int32.ofInt 1 : Int32).toInt ≤ 1) (by decide) (by decide)
          refine lv_iinc (v := v_86181) (lv' := [(1, .int v_86181), (0, .int p0)]) hx hb dX6_lowest_17 hl (k := 0) rfl v_86181_e.symm (by decide) rfl (fun ls hl => ?_)
          refine lv_goto (tgt := 2) hx hb dX6_lowest_20 (by decide) ?_
          exact ih_86173 v_86181 ls (tr_w h_v_86181 (by decide) (by decide)) (by omega) (lv_sub hl [0, 1] rfl)
        · skip
          refine lv_iload_n hx hb dX6_lowest_15 rfl (lv_at hl 0 rfl) ?_
          exact W.iret (v := x_86172) hx hb hr (fun t ht hW => ⟨x_86172, rfl, (tr_w h_86176 (by decide) (by decide)), ht⟩) (fun _ h => nomatch h) dX6_lowest_16
  exact lp_86173 4 0 ls (⟨by decide, by decide⟩ : 0 ≤ (0 : Int32).toInt ∧ (0 : Int32).toInt ≤ 3) (by decide) (lv_sub hl [0, 1] rfl)
set_option maxHeartbeats 4000000 in
set_option maxRecDepth 100000 in
theorem c_X6_keepEven (l : Launch) (D : va_G) (g : Nat → ClassId) (sz : Nat) (sv : Nat) (vs : Nat) (n : Nat) (co : Nat) (sv_keep : Nat) (sv_scaled : Nat) (n_nodes : Int32) (n_kind : Nat) (n_pay : Nat) (n_name : Nat) (n_ways : Nat) (n_held : Nat) (n_targets : Nat) (n_weights : Nat) (n_fkind : Nat → Int32) (n_fpay : Nat → Int32) (n_fways : Nat → Int32) (n_fheld : Nat → Int32) (n_ftargets : Nat → Int32) (vs_part : Nat) (vsw : Int64) (vsp : Nat → Int64) (kpf : Nat → Int32) (h_n_nodes : 0 ≤ (n_nodes : Int32).toInt ∧ (n_nodes : Int32).toInt ≤ 12) (h_n_fkind : ∀ j : Nat, 0 ≤ (n_fkind j).toInt ∧ (n_fkind j).toInt ≤ 3) (h_n_fways : ∀ j : Nat, 0 ≤ (n_fways j).toInt ∧ (n_fways j).toInt ≤ 3) (h_n_fheld : ∀ j : Nat, (-1) ≤ (n_fheld j).toInt ∧ (n_fheld j).toInt ≤ 2) (h_n_ftargets : ∀ j : Nat, 0 ≤ (n_ftargets j).toInt ∧ (n_ftargets j).toInt ≤ 11) : Met l yX6_keepEven (.code yX6_keepEven cX6_keepEven 4 none :: wsL_law) ({ frames := 1, cells := 0, slots := 0, locals := 22 }) (va_Pc [.ref sv, .ref vs] (fun U => U.heap.size = sz ∧ va_P D vwCl [(sv, .inr (6, [.ref n, .ref co, .ref sv_keep, .ref sv_scaled])), (n, .inr (2, [.int n_nodes, .ref n_kind, .ref n_pay, .ref n_name, .ref n_ways, .ref n_held, .ref n_targets, .ref n_weights])), (n_kind, .inl (g 0, 12, .inl n_fkind)), (n_pay, .inl (g 0, 12, .inl n_fpay)), (n_ways, .inl (g 0, 12, .inl n_fways)), (n_held, .inl (g 0, 12, .inl n_fheld)), (n_targets, .inl (g 0, 36, .inl n_ftargets)), (vs, .inr (10, [.ref vs_part, .long vsw])), (vs_part, .inl (g 1, 12, .inr (.inl vsp))), (sv_keep, .inl (g 0, 12, .inl kpf))] U.heap ∧ va_K D vwCl (TY g) U ∧ va_D (fun _ => True) [(sv, .inr (6, [.ref n, .ref co, .ref sv_keep, .ref sv_scaled])), (n, .inr (2, [.int n_nodes, .ref n_kind, .ref n_pay, .ref n_name, .ref n_ways, .ref n_held, .ref n_targets, .ref n_weights])), (n_kind, .inl (g 0, 12, .inl n_fkind)), (n_pay, .inl (g 0, 12, .inl n_fpay)), (n_ways, .inl (g 0, 12, .inl n_fways)), (n_held, .inl (g 0, 12, .inl n_fheld)), (n_targets, .inl (g 0, 36, .inl n_ftargets)), (vs, .inr (10, [.ref vs_part, .long vsw])), (vs_part, .inl (g 1, 12, .inr (.inl vsp))), (sv_keep, .inl (g 0, 12, .inl kpf))])) (va_Qv (fun (_ : Unit) => True) (fun _ t => ∃ okp : Nat → Int32, va_P D vwCl [(sv, .inr (6, [.ref n, .ref co, .ref sv_keep, .ref sv_scaled])), (n, .inr (2, [.int n_nodes, .ref n_kind, .ref n_pay, .ref n_name, .ref n_ways, .ref n_held, .ref n_targets, .ref n_weights])), (n_kind, .inl (g 0, 12, .inl n_fkind)), (n_pay, .inl (g 0, 12, .inl n_fpay)), (n_ways, .inl (g 0, 12, .inl n_fways)), (n_held, .inl (g 0, 12, .inl n_fheld)), (n_targets, .inl (g 0, 36, .inl n_ftargets)), (vs, .inr (10, [.ref vs_part, .long vsw])), (vs_part, .inl (g 1, 12, .inr (.inl vsp))), (sv_keep, .inl (g 0, 12, .inl okp))] t.heap ∧ va_D (va_A [(sv, .inr (6, [.ref n, .ref co, .ref sv_keep, .ref sv_scaled])), (n, .inr (2, [.int n_nodes, .ref n_kind, .ref n_pay, .ref n_name, .ref n_ways, .ref n_held, .ref n_targets, .ref n_weights])), (n_kind, .inl (g 0, 12, .inl n_fkind)), (n_pay, .inl (g 0, 12, .inl n_fpay)), (n_ways, .inl (g 0, 12, .inl n_fways)), (n_held, .inl (g 0, 12, .inl n_fheld)), (n_targets, .inl (g 0, 36, .inl n_ftargets)), (vs, .inr (10, [.ref vs_part, .long vsw])), (vs_part, .inl (g 1, 12, .inr (.inl vsp))), (sv_keep, .inl (g 0, 12, .inl kpf))] sz) [(sv, .inr (6, [.ref n, .ref co, .ref sv_keep, .ref sv_scaled])), (n, .inr (2, [.int n_nodes, .ref n_kind, .ref n_pay, .ref n_name, .ref n_ways, .ref n_held, .ref n_targets, .ref n_weights])), (n_kind, .inl (g 0, 12, .inl n_fkind)), (n_pay, .inl (g 0, 12, .inl n_fpay)), (n_ways, .inl (g 0, 12, .inl n_fways)), (n_held, .inl (g 0, 12, .inl n_fheld)), (n_targets, .inl (g 0, 36, .inl n_ftargets)), (vs, .inr (10, [.ref vs_part, .long vsw])), (vs_part, .inl (g 1, 12, .inr (.inl vsp))), (sv_keep, .inl (g 0, 12, .inl okp))]) (va_A [(sv, .inr (6, [.ref n, .ref co, .ref sv_keep, .ref sv_scaled])), (n, .inr (2, [.int n_nodes, .ref n_kind, .ref n_pay, .ref n_name, .ref n_ways, .ref n_held, .ref n_targets, .ref n_weights])), (n_kind, .inl (g 0, 12, .inl n_fkind)), (n_pay, .inl (g 0, 12, .inl n_fpay)), (n_ways, .inl (g 0, 12, .inl n_fways)), (n_held, .inl (g 0, 12, .inl n_fheld)), (n_targets, .inl (g 0, 36, .inl n_ftargets)), (vs, .inr (10, [.ref vs_part, .long vsw])), (vs_part, .inl (g 1, 12, .inr (.inl vsp))), (sv_keep, .inl (g 0, 12, .inl kpf))] sz)) 0 0 (va_A [(sv, .inr (6, [.ref n, .ref co, .ref sv_keep, .ref sv_scaled])), (n, .inr (2, [.int n_nodes, .ref n_kind, .ref n_pay, .ref n_name, .ref n_ways, .ref n_held, .ref n_targets, .ref n_weights])), (n_kind, .inl (g 0, 12, .inl n_fkind)), (n_pay, .inl (g 0, 12, .inl n_fpay)), (n_ways, .inl (g 0, 12, .inl n_fways)), (n_held, .inl (g 0, 12, .inl n_fheld)), (n_targets, .inl (g 0, 36, .inl n_ftargets)), (vs, .inr (10, [.ref vs_part, .long vsw])), (vs_part, .inl (g 1, 12, .inr (.inl vsp))), (sv_keep, .inl (g 0, 12, .inl kpf))] sz) := by
  refine Met.ofW (cc := cX6_keepEven) (maxL := 4) (ret := none) (by decide) rfl ?_
  intro p e s m args below meth c s₁ B hml hv
  obtain ⟨ha, hsz, hP, hK, hD0⟩ := hv
  have hx := B.exec
  have hb := B.bytes
  have hr := B.returns
  have hts0 := atoms_spec (ws := (.code yX6_keepEven cX6_keepEven 4 none :: wsL_law)) B.pre
  have hts : ∀ w ∈ wsL_law, w.before args s = true := fun w h => hts0 w (List.mem_cons_of_mem _ h)
  have hown : s.vm.findClass RX6 = some m.cls := findClass_of_methodNamed B.named
  have hlocks := B.notSynchronized
  subst hsz
  have hD := hD0.self (sz := s.heap.size)
  generalize hAe : va_A [(sv, .inr (6, [.ref n, .ref co, .ref sv_keep, .ref sv_scaled])), (n, .inr (2, [.int n_nodes, .ref n_kind, .ref n_pay, .ref n_name, .ref n_ways, .ref n_held, .ref n_targets, .ref n_weights])), (n_kind, .inl (g 0, 12, .inl n_fkind)), (n_pay, .inl (g 0, 12, .inl n_fpay)), (n_ways, .inl (g 0, 12, .inl n_fways)), (n_held, .inl (g 0, 12, .inl n_fheld)), (n_targets, .inl (g 0, 36, .inl n_ftargets)), (vs, .inr (10, [.ref vs_part, .long vsw])), (vs_part, .inl (g 1, 12, .inr (.inl vsp))), (sv_keep, .inl (g 0, 12, .inl kpf))] s.heap.size = A at hD ⊢
  have hA : ∀ q : Nat, s.heap.size ≤ q → A q := fun q h => by rw [← hAe]; exact Or.inr h
  have hS : va_S A s.heap s.heap [] := va_S.rf
  have hP : va_P D vwCl [(sv, .inr (6, [.ref n, .ref co, .ref sv_keep, .ref sv_scaled])), (n, .inr (2, [.int n_nodes, .ref n_kind, .ref n_pay, .ref n_name, .ref n_ways, .ref n_held, .ref n_targets, .ref n_weights])), (n_kind, .inl (g 0, 12, .inl n_fkind)), (n_pay, .inl (g 0, 12, .inl n_fpay)), (n_ways, .inl (g 0, 12, .inl n_fways)), (n_held, .inl (g 0, 12, .inl n_fheld)), (n_targets, .inl (g 0, 36, .inl n_ftargets)), (vs, .inr (10, [.ref vs_part, .long vsw])), (vs_part, .inl (g 1, 12, .inr (.inl vsp))), (sv_keep, .inl (g 0, 12, .inl kpf))] s.heap := hP
  refine W.eq (g2 := entryFrame m ([.ref sv, .ref vs] : List Value).toArray 4) (by rw [ha]) ?_
  have hl := lv_entry ([.ref sv, .ref vs]) (n := 4) (Nat.le_of_ble_eq_true rfl)
  rw [lg_entry_eq]
  generalize (lg_sl ([.ref sv, .ref vs]) ++ List.replicate (4 - (lg_sl ([.ref sv, .ref vs])).length) Slot.unset).toArray = ls at hl ⊢
  have hl : lv_has ls 4 [(0, .ref sv), (1, .ref vs)] := hl
  refine lv_iconst (v := 0) hx hb dX6_keepEven_0 (by decide) ?_
  refine lv_istore_n (lv' := [(2, .int 0), (0, .ref sv), (1, .ref vs)]) hx hb dX6_keepEven_1 rfl hl (by decide) rfl (fun ls hl => ?_)
  have lp_87217 : ∀ (n_87217 : Nat) (x_87215 : Int32) (f_87216 : Nat → Int32) (H : Heap) (locs : List Loc) (ls : Array Slot), (0 ≤ (x_87215 : Int32).toInt ∧ (x_87215 : Int32).toInt ≤ 12) → (12 - x_87215.toInt < (n_87217 : Int)) → va_P D vwCl [(sv, .inr (6, [.ref n, .ref co, .ref sv_keep, .ref sv_scaled])), (n, .inr (2, [.int n_nodes, .ref n_kind, .ref n_pay, .ref n_name, .ref n_ways, .ref n_held, .ref n_targets, .ref n_weights])), (n_kind, .inl (g 0, 12, .inl n_fkind)), (n_pay, .inl (g 0, 12, .inl n_fpay)), (n_ways, .inl (g 0, 12, .inl n_fways)), (n_held, .inl (g 0, 12, .inl n_fheld)), (n_targets, .inl (g 0, 36, .inl n_ftargets)), (vs, .inr (10, [.ref vs_part, .long vsw])), (vs_part, .inl (g 1, 12, .inr (.inl vsp))), (sv_keep, .inl (g 0, 12, .inl f_87216))] H → va_D A [(sv, .inr (6, [.ref n, .ref co, .ref sv_keep, .ref sv_scaled])), (n, .inr (2, [.int n_nodes, .ref n_kind, .ref n_pay, .ref n_name, .ref n_ways, .ref n_held, .ref n_targets, .ref n_weights])), (n_kind, .inl (g 0, 12, .inl n_fkind)), (n_pay, .inl (g 0, 12, .inl n_fpay)), (n_ways, .inl (g 0, 12, .inl n_fways)), (n_held, .inl (g 0, 12, .inl n_fheld)), (n_targets, .inl (g 0, 36, .inl n_ftargets)), (vs, .inr (10, [.ref vs_part, .long vsw])), (vs_part, .inl (g 1, 12, .inr (.inl vsp))), (sv_keep, .inl (g 0, 12, .inl f_87216))] → va_S A s.heap H locs → lv_has ls 4 [(2, .int x_87215), (0, .ref sv), (1, .ref vs)] → W p l e (headSpec (.code yX6_keepEven cX6_keepEven 4 none :: wsL_law) ({ frames := 1, cells := 0, slots := 0, locals := 22 })).room s m args below meth c H locs 0 0 (MQ below (va_Qv (fun (_ : Unit) => True) (fun _ t => ∃ okp : Nat → Int32, va_P D vwCl [(sv, .inr (6, [.ref n, .ref co, .ref sv_keep, .ref sv_scaled])), (n, .inr (2, [.int n_nodes, .ref n_kind, .ref n_pay, .ref n_name, .ref n_ways, .ref n_held, .ref n_targets, .ref n_weights])), (n_kind, .inl (g 0, 12, .inl n_fkind)), (n_pay, .inl (g 0, 12, .inl n_fpay)), (n_ways, .inl (g 0, 12, .inl n_fways)), (n_held, .inl (g 0, 12, .inl n_fheld)), (n_targets, .inl (g 0, 36, .inl n_ftargets)), (vs, .inr (10, [.ref vs_part, .long vsw])), (vs_part, .inl (g 1, 12, .inr (.inl vsp))), (sv_keep, .inl (g 0, 12, .inl okp))] t.heap ∧ va_D A [(sv, .inr (6, [.ref n, .ref co, .ref sv_keep, .ref sv_scaled])), (n, .inr (2, [.int n_nodes, .ref n_kind, .ref n_pay, .ref n_name, .ref n_ways, .ref n_held, .ref n_targets, .ref n_weights])), (n_kind, .inl (g 0, 12, .inl n_fkind)), (n_pay, .inl (g 0, 12, .inl n_fpay)), (n_ways, .inl (g 0, 12, .inl n_fways)), (n_held, .inl (g 0, 12, .inl n_fheld)), (n_targets, .inl (g 0, 36, .inl n_ftargets)), (vs, .inr (10, [.ref vs_part, .long vsw])), (vs_part, .inl (g 1, 12, .inr (.inl vsp))), (sv_keep, .inl (g 0, 12, .inl okp))]) A) args s 0 0 A) (F0 m 2 ls []) := by
    intro n_87217
    induction n_87217 with
    | zero =>
      intro x_87215 f_87216 H locs ls h_x_87215 hm_87217 hP hD hS hl
      exfalso; omega
    | succ n_87217 ih_87217 =>
      intro x_87215 f_87216 H locs ls h_x_87215 hm_87217 hP hD hS hl
      refine lv_iload_n hx hb dX6_keepEven_2 rfl (lv_at hl 0 rfl) ?_
      refine lv_aload_n hx hb dX6_keepEven_3 rfl (lv_at hl 1 rfl) ?_
      refine va_get (D := D) (ci := 6) (v := .ref n) (C := RX6) (T := TX6) (N := 4) hx hb hts inlX6 hown hK hP 0 rfl rfl 0 (by decide) (hts (Cond.fieldLink RX6 19 "ChanceRings$Solver" "net" "LChanceRings$Net;") qw_548) (fun _ h9 => h9) rfl dX6_keepEven_4 ?_
      refine va_get (D := D) (ci := 2) (v := .int n_nodes) (C := RX2) (T := TX2) (N := 8) hx hb hts inlX2 hown hK hP 1 rfl rfl 0 (by decide) (hts (Cond.fieldLink RX6 32 "ChanceRings$Net" "nodes" "I") qw_549) (fun _ h9 => h9) rfl dX6_keepEven_7 ?_
      refine lv_icmp_ge (tgt := 95) hx hb dX6_keepEven_10 (by decide) (fun c_87218 => ?_) (fun c_87218 => ?_)
      · skip
        have hP9 := hP.sub (ws' := [(sv, .inr (6, [.ref n, .ref co, .ref sv_keep, .ref sv_scaled])), (n, .inr (2, [.int n_nodes, .ref n_kind, .ref n_pay, .ref n_name, .ref n_ways, .ref n_held, .ref n_targets, .ref n_weights])), (n_kind, .inl (g 0, 12, .inl n_fkind)), (n_pay, .inl (g 0, 12, .inl n_fpay)), (n_ways, .inl (g 0, 12, .inl n_fways)), (n_held, .inl (g 0, 12, .inl n_fheld)), (n_targets, .inl (g 0, 36, .inl n_ftargets)), (vs, .inr (10, [.ref vs_part, .long vsw])), (vs_part, .inl (g 1, 12, .inr (.inl vsp))), (sv_keep, .inl (g 0, 12, .inl f_87216))]) [0, 1, 2, 3, 4, 5, 6, 7, 8, 9] rfl
        have hD9 := hD.sub (ws' := [(sv, .inr (6, [.ref n, .ref co, .ref sv_keep, .ref sv_scaled])), (n, .inr (2, [.int n_nodes, .ref n_kind, .ref n_pay, .ref n_name, .ref n_ways, .ref n_held, .ref n_targets, .ref n_weights])), (n_kind, .inl (g 0, 12, .inl n_fkind)), (n_pay, .inl (g 0, 12, .inl n_fpay)), (n_ways, .inl (g 0, 12, .inl n_fways)), (n_held, .inl (g 0, 12, .inl n_fheld)), (n_targets, .inl (g 0, 36, .inl n_ftargets)), (vs, .inr (10, [.ref vs_part, .long vsw])), (vs_part, .inl (g 1, 12, .inr (.inl vsp))), (sv_keep, .inl (g 0, 12, .inl f_87216))]) [0, 1, 2, 3, 4, 5, 6, 7, 8, 9] (by decide) rfl
        exact W.vret hx hb hr (fun t ht hW => ⟨⟨(), rfl, trivial, f_87216, by rw [ht]; exact hP9, hD9⟩, hS.F ht⟩) hS.2.2 dX6_keepEven_95
      · skip
        have c_87218_i := Int32.lt_iff_toInt_lt.mp (Int32.not_le.mp c_87218)
        have h_87219 : 0 ≤ (x_87215 : Int32).toInt ∧ (x_87215 : Int32).toInt ≤ 11 := nr_lt_l h_x_87215 h_n_nodes c_87218_i (by decide) (by decide)
        have h_87220 : 1 ≤ (n_nodes : Int32).toInt ∧ (n_nodes : Int32).toInt ≤ 12 := nr_lt_r h_x_87215 h_n_nodes c_87218_i (by decide) (by decide)
        refine lv_aload_n hx hb dX6_keepEven_13 rfl (lv_at hl 1 rfl) ?_
        refine va_get (D := D) (ci := 6) (v := .ref sv_keep) (C := RX6) (T := TX6) (N := 4) hx hb hts inlX6 hown hK hP 0 rfl rfl 2 (by decide) (hts (Cond.fieldLink RX6 9 "ChanceRings$Solver" "keep" "[I") qw_587) (fun _ h9 => h9) rfl dX6_keepEven_14 ?_
        refine lv_iload_n hx hb dX6_keepEven_17 rfl (lv_at hl 0 rfl) ?_
        refine lv_iconst (v := 0) hx hb dX6_keepEven_18 (by decide) ?_
        refine va_iast hx hb hK hP hD hS 9 0 rfl rfl (tr_in h_87219 (by decide) (by decide)) dX6_keepEven_19 (fun H locs hP hD hS => ?_)
        obtain ⟨f_87221, hP, hD⟩ : ∃ FX : Nat → Int32, va_P D vwCl [(sv, .inr (6, [.ref n, .ref co, .ref sv_keep, .ref sv_scaled])), (n, .inr (2, [.int n_nodes, .ref n_kind, .ref n_pay, .ref n_name, .ref n_ways, .ref n_held, .ref n_targets, .ref n_weights])), (n_kind, .inl (g 0, 12, .inl n_fkind)), (n_pay, .inl (g 0, 12, .inl n_fpay)), (n_ways, .inl (g 0, 12, .inl n_fways)), (n_held, .inl (g 0, 12, .inl n_fheld)), (n_targets, .inl (g 0, 36, .inl n_ftargets)), (vs, .inr (10, [.ref vs_part, .long vsw])), (vs_part, .inl (g 1, 12, .inr (.inl vsp))), (sv_keep, .inl (g 0, 12, .inl FX))] H ∧ va_D A [(sv, .inr (6, [.ref n, .ref co, .ref sv_keep, .ref sv_scaled])), (n, .inr (2, [.int n_nodes, .ref n_kind, .ref n_pay, .ref n_name, .ref n_ways, .ref n_held, .ref n_targets, .ref n_weights])), (n_kind, .inl (g 0, 12, .inl n_fkind)), (n_pay, .inl (g 0, 12, .inl n_fpay)), (n_ways, .inl (g 0, 12, .inl n_fways)), (n_held, .inl (g 0, 12, .inl n_fheld)), (n_targets, .inl (g 0, 36, .inl n_ftargets)), (vs, .inr (10, [.ref vs_part, .long vsw])), (vs_part, .inl (g 1, 12, .inr (.inl vsp))), (sv_keep, .inl (g 0, 12, .inl FX))] := ⟨_, hP, hD⟩
        have hP : va_P D vwCl [(sv, .inr (6, [.ref n, .ref co, .ref sv_keep, .ref sv_scaled])), (n, .inr (2, [.int n_nodes, .ref n_kind, .ref n_pay, .ref n_name, .ref n_ways, .ref n_held, .ref n_targets, .ref n_weights])), (n_kind, .inl (g 0, 12, .inl n_fkind)), (n_pay, .inl (g 0, 12, .inl n_fpay)), (n_ways, .inl (g 0, 12, .inl n_fways)), (n_held, .inl (g 0, 12, .inl n_fheld)), (n_targets, .inl (g 0, 36, .inl n_ftargets)), (vs, .inr (10, [.ref vs_part, .long vsw])), (vs_part, .inl (g 1, 12, .inr (.inl vsp))), (sv_keep, .inl (g 0, 12, .inl f_87221))] H := hP
        have hD : va_D A [(sv, .inr (6, [.ref n, .ref co, .ref sv_keep, .ref sv_scaled])), (n, .inr (2, [.int n_nodes, .ref n_kind, .ref n_pay, .ref n_name, .ref n_ways, .ref n_held, .ref n_targets, .ref n_weights])), (n_kind, .inl (g 0, 12, .inl n_fkind)), (n_pay, .inl (g 0, 12, .inl n_fpay)), (n_ways, .inl (g 0, 12, .inl n_fways)), (n_held, .inl (g 0, 12, .inl n_fheld)), (n_targets, .inl (g 0, 36, .inl n_ftargets)), (vs, .inr (10, [.ref vs_part, .long vsw])), (vs_part, .inl (g 1, 12, .inr (.inl vsp))), (sv_keep, .inl (g 0, 12, .inl f_87221))] := hD
        refine lv_iconst (v := 0) hx hb dX6_keepEven_20 (by decide) ?_
        refine lv_istore_n (lv' := [(3, .int 0), (2, .int x_87215), (0, .ref sv), (1, .ref vs)]) hx hb dX6_keepEven_21 rfl hl (by decide) rfl (fun ls hl => ?_)
        have lp_87322 : ∀ (n_87322 : Nat) (x_87320 : Int32) (f_87321 : Nat → Int32) (H : Heap) (locs : List Loc) (ls : Array Slot), (0 ≤ (x_87320 : Int32).toInt ∧ (x_87320 : Int32).toInt ≤ 3) → (3 - x_87320.toInt < (n_87322 : Int)) → va_P D vwCl [(sv, .inr (6, [.ref n, .ref co, .ref sv_keep, .ref sv_scaled])), (n, .inr (2, [.int n_nodes, .ref n_kind, .ref n_pay, .ref n_name, .ref n_ways, .ref n_held, .ref n_targets, .ref n_weights])), (n_kind, .inl (g 0, 12, .inl n_fkind)), (n_pay, .inl (g 0, 12, .inl n_fpay)), (n_ways, .inl (g 0, 12, .inl n_fways)), (n_held, .inl (g 0, 12, .inl n_fheld)), (n_targets, .inl (g 0, 36, .inl n_ftargets)), (vs, .inr (10, [.ref vs_part, .long vsw])), (vs_part, .inl (g 1, 12, .inr (.inl vsp))), (sv_keep, .inl (g 0, 12, .inl f_87321))] H → va_D A [(sv, .inr (6, [.ref n, .ref co, .ref sv_keep, .ref sv_scaled])), (n, .inr (2, [.int n_nodes, .ref n_kind, .ref n_pay, .ref n_name, .ref n_ways, .ref n_held, .ref n_targets, .ref n_weights])), (n_kind, .inl (g 0, 12, .inl n_fkind)), (n_pay, .inl (g 0, 12, .inl n_fpay)), (n_ways, .inl (g 0, 12, .inl n_fways)), (n_held, .inl (g 0, 12, .inl n_fheld)), (n_targets, .inl (g 0, 36, .inl n_ftargets)), (vs, .inr (10, [.ref vs_part, .long vsw])), (vs_part, .inl (g 1, 12, .inr (.inl vsp))), (sv_keep, .inl (g 0, 12, .inl f_87321))] → va_S A s.heap H locs → lv_has ls 4 [(3, .int x_87320), (2, .int x_87215), (0, .ref sv), (1, .ref vs)] → W p l e (headSpec (.code yX6_keepEven cX6_keepEven 4 none :: wsL_law) ({ frames := 1, cells := 0, slots := 0, locals := 22 })).room s m args below meth c H locs 0 0 (MQ below (va_Qv (fun (_ : Unit) => True) (fun _ t => ∃ okp : Nat → Int32, va_P D vwCl [(sv, .inr (6, [.ref n, .ref co, .ref sv_keep, .ref sv_scaled])), (n, .inr (2, [.int n_nodes, .ref n_kind, .ref n_pay, .ref n_name, .ref n_ways, .ref n_held, .ref n_targets, .ref n_weights])), (n_kind, .inl (g 0, 12, .inl n_fkind)), (n_pay, .inl (g 0, 12, .inl n_fpay)), (n_ways, .inl (g 0, 12, .inl n_fways)), (n_held, .inl (g 0, 12, .inl n_fheld)), (n_targets, .inl (g 0, 36, .inl n_ftargets)), (vs, .inr (10, [.ref vs_part, .long vsw])), (vs_part, .inl (g 1, 12, .inr (.inl vsp))), (sv_keep, .inl (g 0, 12, .inl okp))] t.heap ∧ va_D A [(sv, .inr (6, [.ref n, .ref co, .ref sv_keep, .ref sv_scaled])), (n, .inr (2, [.int n_nodes, .ref n_kind, .ref n_pay, .ref n_name, .ref n_ways, .ref n_held, .ref n_targets, .ref n_weights])), (n_kind, .inl (g 0, 12, .inl n_fkind)), (n_pay, .inl (g 0, 12, .inl n_fpay)), (n_ways, .inl (g 0, 12, .inl n_fways)), (n_held, .inl (g 0, 12, .inl n_fheld)), (n_targets, .inl (g 0, 36, .inl n_ftargets)), (vs, .inr (10, [.ref vs_part, .long vsw])), (vs_part, .inl (g 1, 12, .inr (.inl vsp))), (sv_keep, .inl (g 0, 12, .inl okp))]) A) args s 0 0 A) (F0 m 22 ls []) := by
          intro n_87322
          induction n_87322 with
          | zero =>
            intro x_87320 f_87321 H locs ls h_x_87320 hm_87322 hP hD hS hl
            exfalso; omega
          | succ n_87322 ih_87322 =>
            intro x_87320 f_87321 H locs ls h_x_87320 hm_87322 hP hD hS hl
            refine lv_iload_n hx hb dX6_keepEven_22 rfl (lv_at hl 0 rfl) ?_
            refine lv_aload_n hx hb dX6_keepEven_23 rfl (lv_at hl 2 rfl) ?_
            refine va_get (D := D) (ci := 6) (v := .ref n) (C := RX6) (T := TX6) (N := 4) hx hb hts inlX6 hown hK hP 0 rfl rfl 0 (by decide) (hts (Cond.fieldLink RX6 19 "ChanceRings$Solver" "net" "LChanceRings$Net;") qw_548) (fun _ h9 => h9) rfl dX6_keepEven_24 ?_
            refine va_get (D := D) (ci := 2) (v := .ref n_ways) (C := RX2) (T := TX2) (N := 8) hx hb hts inlX2 hown hK hP 1 rfl rfl 4 (by decide) (hts (Cond.fieldLink RX6 68 "ChanceRings$Net" "ways" "[I") qw_552) (fun _ h9 => h9) rfl dX6_keepEven_27 ?_
            refine lv_iload_n hx hb dX6_keepEven_30 rfl (lv_at hl 1 rfl) ?_
            refine va_iald hx hb hK hP 4 0 rfl rfl (tr_in h_87219 (by decide) (by decide)) dX6_keepEven_31 ?_
            refine lv_topi (fun v_87323 v_87323_e => ?_)
            have h_v_87323 : 0 ≤ (v_87323 : Int32).toInt ∧ (v_87323 : Int32).toInt ≤ 3 := by rw [v_87323_e]; exact h_n_fways _
            refine lv_icmp_ge (tgt := 89) hx hb dX6_keepEven_32 (by decide) (fun c_87324 => ?_) (fun c_87324 => ?_)
            · skip
              obtain ⟨v_87327, v_87327_e⟩ : ∃ y : Int32, y = x_87215 + Int32.ofInt 1 := ⟨_, rfl⟩
              have h_v_87327 : 1 ≤ (v_87327 : Int32).toInt ∧ (v_87327 : Int32).toInt ≤ 12 := by rw [v_87327_e]; exact tr_add h_87219 (⟨by decide, by decide⟩ : 1 ≤ (Int32.ofInt 1 : Int32).toInt ∧ (Int32.ofInt 1 : Int32).toInt ≤ 1) (by decide) (by decide) (by decide) (by decide)
              have q_v_87327 : v_87327.toInt = x_87215.toInt + 1 := by rw [v_87327_e]; exact tr_addE h_87219 (⟨by decide, by decide⟩ : 1 ≤ (Int32.ofInt 1 : Int32).toInt ∧ (Int32.ofInt 1 : Int32).toInt ≤ 1) (by decide) (by decide)
              refine lv_iinc (v := v_87327) (lv' := [(2, .int v_87327), (3, .int x_87320), (0, .ref sv), (1, .ref vs)]) hx hb dX6_keepEven_89 hl (k := 1) rfl v_87327_e.symm (by decide) rfl (fun ls hl => ?_)
              refine lv_goto (tgt := 2) hx hb dX6_keepEven_92 (by decide) ?_
              exact ih_87217 v_87327 f_87321 H _ ls (tr_w h_v_87327 (by decide) (by decide)) (by omega) (hP.sub [0, 1, 2, 3, 4, 5, 6, 7, 8, 9] rfl) (hD.sub [0, 1, 2, 3, 4, 5, 6, 7, 8, 9] (by decide) rfl) hS (lv_sub hl [0, 2, 3] rfl)
            · skip
              have c_87324_i := Int32.lt_iff_toInt_lt.mp (Int32.not_le.mp c_87324)
              have h_87325 : 0 ≤ (x_87320 : Int32).toInt ∧ (x_87320 : Int32).toInt ≤ 2 := nr_lt_l h_x_87320 h_v_87323 c_87324_i (by decide) (by decide)
              have h_87326 : 1 ≤ (v_87323 : Int32).toInt ∧ (v_87323 : Int32).toInt ≤ 3 := nr_lt_r h_x_87320 h_v_87323 c_87324_i (by decide) (by decide)
              refine lv_aload_n hx hb dX6_keepEven_35 rfl (lv_at hl 2 rfl) ?_
              refine va_get (D := D) (ci := 6) (v := .ref n) (C := RX6) (T := TX6) (N := 4) hx hb hts inlX6 hown hK hP 0 rfl rfl 0 (by decide) (hts (Cond.fieldLink RX6 19 "ChanceRings$Solver" "net" "LChanceRings$Net;") qw_548) (fun _ h9 => h9) rfl dX6_keepEven_36 ?_
              refine lv_iload_n hx hb dX6_keepEven_39 rfl (lv_at hl 1 rfl) ?_
              refine lv_iload_n hx hb dX6_keepEven_40 rfl (lv_at hl 0 rfl) ?_
              have hPc := hP.sub (ws' := [(n, .inr (2, [.int n_nodes, .ref n_kind, .ref n_pay, .ref n_name, .ref n_ways, .ref n_held, .ref n_targets, .ref n_weights])), (n_held, .inl (g 0, 12, .inl n_fheld))]) [1, 5] rfl
              refine vp_callSi (va_Run.run (va_runV (As := [.int x_87215, .int x_87320]) (rest := []) ⟨hx, hb, hml, hown, hts⟩ (c_X2_canTake l D g n x_87215 x_87320 n_nodes n_kind n_pay n_name n_ways n_held n_targets n_weights n_fheld (tr_w h_87219 (by decide) (by decide)) (tr_w h_87220 (by decide) (by decide)) (tr_wa h_n_fheld (by decide) (by decide))) (cwV 2 hts (tz_gV qw_588 qw_320 qw_321 qw_322 qw_323) rfl rfl rfl (by decide +kernel) ⟨Nat.le_of_ble_eq_true rfl, Nat.le_of_ble_eq_true rfl⟩) ⟨tz_blS, va_recv hK hPc (ci := 2) (q0 := 0) rfl rfl, tz_preS hPc hK⟩ rfl rfl hl.1 rfl (lv_room (Nat.le_of_ble_eq_true rfl)) dX6_keepEven_41 ⟨Nat.le_of_ble_eq_true rfl, Nat.le_of_ble_eq_true rfl⟩)) (fun r_87328 hw => ?_)
              have hw_87329 : 0 ≤ (r_87328 : Int32).toInt ∧ (r_87328 : Int32).toInt ≤ 1 := hw
              refine lv_if_eq (tgt := 83) hx hb dX6_keepEven_44 (by decide) (fun c_87330 => ?_) (fun c_87330 => ?_)
              · skip
                have c_87330_i : (r_87328 : Int32).toInt = (0 : Int32).toInt := congrArg Int32.toInt c_87330
                have h_87331 : 0 ≤ (r_87328 : Int32).toInt ∧ (r_87328 : Int32).toInt ≤ 0 := nr_eq_l hw_87329 (⟨by decide, by decide⟩ : 0 ≤ (0 : Int32).toInt ∧ (0 : Int32).toInt ≤ 0) c_87330_i (by decide) (by decide)
                obtain ⟨v_87333, v_87333_e⟩ : ∃ y : Int32, y = x_87320 + Int32.ofInt 1 := ⟨_, rfl⟩
                have h_v_87333 : 1 ≤ (v_87333 : Int32).toInt ∧ (v_87333 : Int32).toInt ≤ 3 := by rw [v_87333_e]; exact tr_add h_87325 (⟨by decide, by decide⟩ : 1 ≤ (Int32.ofInt 1 : Int32).toInt ∧ (Int32.ofInt 1 : Int32).toInt ≤ 1) (by decide) (by decide) (by decide) (by decide)
                have q_v_87333 : v_87333.toInt = x_87320.toInt + 1 := by rw [v_87333_e]; exact tr_addE h_87325 (⟨by decide, by decide⟩ : 1 ≤ (Int32.ofInt 1 : Int32).toInt ∧ (Int32.ofInt 1 : Int32).toInt ≤ 1) (by decide) (by decide)
                refine lv_iinc (v := v_87333) (lv' := [(3, .int v_87333), (2, .int x_87215), (0, .ref sv), (1, .ref vs)]) hx hb dX6_keepEven_83 hl (k := 0) rfl v_87333_e.symm (by decide) rfl (fun ls hl => ?_)
                refine lv_goto (tgt := 22) hx hb dX6_keepEven_86 (by decide) ?_
                exact ih_87322 v_87333 f_87321 H _ ls (tr_w h_v_87333 (by decide) (by decide)) (by (first | (clear h_n_nodes h_x_87215 c_87218_i h_87219 h_87220 hw_87329 c_87330_i h_87331; omega) | omega)) (hP.sub [0, 1, 2, 3, 4, 5, 6, 7, 8, 9] rfl) (hD.sub [0, 1, 2, 3, 4, 5, 6, 7, 8, 9] (by decide) rfl) hS (lv_sub hl [0, 1, 2, 3] rfl)
              · skip
                have c_87330_i : ¬ (r_87328 : Int32).toInt = (0 : Int32).toInt := (fun q => c_87330 (Int32.toInt_inj.mp q))
                have h_87332 : 1 ≤ (r_87328 : Int32).toInt ∧ (r_87328 : Int32).toInt ≤ 1 := nr_ne_l hw_87329 (⟨by decide, by decide⟩ : 0 ≤ (0 : Int32).toInt ∧ (0 : Int32).toInt ≤ 0) c_87330_i (by decide) (by decide)
                refine lv_aload_n hx hb dX6_keepEven_47 rfl (lv_at hl 3 rfl) ?_
                refine va_get (D := D) (ci := 10) (v := .ref vs_part) (C := RX10) (T := TX10) (N := 2) hx hb hts inlX10 hown hK hP 7 rfl rfl 0 (by decide) (hts (Cond.fieldLink RX6 71 "ChanceRings$Values" "part" "[J") qw_553) (fun _ h9 => h9) rfl dX6_keepEven_48 ?_
                refine lv_aload_n hx hb dX6_keepEven_51 rfl (lv_at hl 2 rfl) ?_
                refine va_get (D := D) (ci := 6) (v := .ref n) (C := RX6) (T := TX6) (N := 4) hx hb hts inlX6 hown hK hP 0 rfl rfl 0 (by decide) (hts (Cond.fieldLink RX6 19 "ChanceRings$Solver" "net" "LChanceRings$Net;") qw_548) (fun _ h9 => h9) rfl dX6_keepEven_52 ?_
                refine lv_iload_n hx hb dX6_keepEven_55 rfl (lv_at hl 1 rfl) ?_
                refine lv_iload_n hx hb dX6_keepEven_56 rfl (lv_at hl 0 rfl) ?_
                have hPc := hP.sub (ws' := [(n, .inr (2, [.int n_nodes, .ref n_kind, .ref n_pay, .ref n_name, .ref n_ways, .ref n_held, .ref n_targets, .ref n_weights])), (n_targets, .inl (g 0, 36, .inl n_ftargets))]) [1, 6] rfl
                refine vp_callSi (va_Run.run (va_runV (As := [.int x_87215, .int x_87320]) (rest := [.ref vs_part]) ⟨hx, hb, hml, hown, hts⟩ (c_X2_target l D g n x_87215 x_87320 n_nodes n_kind n_pay n_name n_ways n_held n_targets n_weights n_ftargets (tr_w h_87219 (by decide) (by decide)) (tr_w h_87325 (by decide) (by decide)) (tr_w h_87220 (by decide) (by decide)) (tr_wa h_n_ftargets (by decide) (by decide))) (cwV 2 hts (tz_gV qw_554 qw_325 qw_326 qw_322 qw_327) rfl rfl rfl (by decide +kernel) ⟨Nat.le_of_ble_eq_true rfl, Nat.le_of_ble_eq_true rfl⟩) ⟨tz_blS, va_recv hK hPc (ci := 2) (q0 := 0) rfl rfl, tz_preS hPc hK⟩ rfl rfl hl.1 rfl (lv_room (Nat.le_of_ble_eq_true rfl)) dX6_keepEven_57 ⟨Nat.le_of_ble_eq_true rfl, Nat.le_of_ble_eq_true rfl⟩)) (fun r_87334 hw => ?_)
                have hw_87335 : 0 ≤ (r_87334 : Int32).toInt ∧ (r_87334 : Int32).toInt ≤ 11 := hw
                refine va_lald hx hb hK hP 8 1 rfl rfl (tr_in hw_87335 (by decide) (by decide)) dX6_keepEven_60 ?_
                refine lv_topl (fun w_87336 _ => ?_)
                refine lv_aload_n hx hb dX6_keepEven_61 rfl (lv_at hl 3 rfl) ?_
                refine va_get (D := D) (ci := 10) (v := .ref vs_part) (C := RX10) (T := TX10) (N := 2) hx hb hts inlX10 hown hK hP 7 rfl rfl 0 (by decide) (hts (Cond.fieldLink RX6 71 "ChanceRings$Values" "part" "[J") qw_553) (fun _ h9 => h9) rfl dX6_keepEven_62 ?_
                refine lv_iload_n hx hb dX6_keepEven_65 rfl (lv_at hl 1 rfl) ?_
                refine va_lald hx hb hK hP 8 1 rfl rfl (tr_in h_87219 (by decide) (by decide)) dX6_keepEven_66 ?_
                refine lv_topl (fun w_87337 _ => ?_)
                refine W.lcmp hx hb dX6_keepEven_67 ?_
                refine lv_topi (fun v_87338 v_87338_e => ?_)
                have h_v_87338 : (-1) ≤ (v_87338 : Int32).toInt ∧ (v_87338 : Int32).toInt ≤ 1 := by rw [v_87338_e]; exact tr_cmp _ _
                refine lv_if_ne (tgt := 83) hx hb dX6_keepEven_68 (by decide) (fun c_87339 => ?_) (fun c_87339 => ?_)
                · skip
                  obtain ⟨v_87341, v_87341_e⟩ : ∃ y : Int32, y = x_87320 + Int32.ofInt 1 := ⟨_, rfl⟩
                  have h_v_87341 : 1 ≤ (v_87341 : Int32).toInt ∧ (v_87341 : Int32).toInt ≤ 3 := by rw [v_87341_e]; exact tr_add h_87325 (⟨by decide, by decide⟩ : 1 ≤ (Int32.ofInt 1 : Int32).toInt ∧ (Int32.ofInt 1 : Int32).toInt ≤ 1) (by decide) (by decide) (by decide) (by decide)
                  have q_v_87341 : v_87341.toInt = x_87320.toInt + 1 := by rw [v_87341_e]; exact tr_addE h_87325 (⟨by decide, by decide⟩ : 1 ≤ (Int32.ofInt 1 : Int32).toInt ∧ (Int32.ofInt 1 : Int32).toInt ≤ 1) (by decide) (by decide)
                  refine lv_iinc (v := v_87341) (lv' := [(3, .int v_87341), (2, .int x_87215), (0, .ref sv), (1, .ref vs)]) hx hb dX6_keepEven_83 hl (k := 0) rfl v_87341_e.symm (by decide) rfl (fun ls hl => ?_)
                  refine lv_goto (tgt := 22) hx hb dX6_keepEven_86 (by decide) ?_
                  exact ih_87322 v_87341 f_87321 H _ ls (tr_w h_v_87341 (by decide) (by decide)) (by (first | (clear h_n_nodes h_x_87215 c_87218_i h_87219 h_87220 hw_87329 c_87330_i h_87332 hw_87335 h_v_87338; omega) | omega)) (hP.sub [0, 1, 2, 3, 4, 5, 6, 7, 8, 9] rfl) (hD.sub [0, 1, 2, 3, 4, 5, 6, 7, 8, 9] (by decide) rfl) hS (lv_sub hl [0, 1, 2, 3] rfl)
                · skip
                  have c_87339_i : (v_87338 : Int32).toInt = (0 : Int32).toInt := congrArg Int32.toInt c_87339
                  have h_87340 : 0 ≤ (v_87338 : Int32).toInt ∧ (v_87338 : Int32).toInt ≤ 0 := nr_eq_l h_v_87338 (⟨by decide, by decide⟩ : 0 ≤ (0 : Int32).toInt ∧ (0 : Int32).toInt ≤ 0) c_87339_i (by decide) (by decide)
                  refine lv_aload_n hx hb dX6_keepEven_71 rfl (lv_at hl 2 rfl) ?_
                  refine va_get (D := D) (ci := 6) (v := .ref sv_keep) (C := RX6) (T := TX6) (N := 4) hx hb hts inlX6 hown hK hP 0 rfl rfl 2 (by decide) (hts (Cond.fieldLink RX6 9 "ChanceRings$Solver" "keep" "[I") qw_587) (fun _ h9 => h9) rfl dX6_keepEven_72 ?_
                  refine lv_iload_n hx hb dX6_keepEven_75 rfl (lv_at hl 1 rfl) ?_
                  refine lv_dup2_11 hx hb dX6_keepEven_76 rfl rfl ?_
                  refine va_iald hx hb hK hP 9 0 rfl rfl (tr_in h_87219 (by decide) (by decide)) dX6_keepEven_77 ?_
                  refine lv_topi (fun v_87342 v_87342_e => ?_)
                  refine lv_iconst (v := 1) hx hb dX6_keepEven_78 (by decide) ?_
                  refine lv_iload_n hx hb dX6_keepEven_79 rfl (lv_at hl 0 rfl) ?_
                  refine lv_ishl hx hb dX6_keepEven_80 ?_
                  refine lv_topi (fun v_87343 v_87343_e => ?_)
                  refine lv_ior hx hb dX6_keepEven_81 ?_
                  refine lv_topi (fun v_87344 v_87344_e => ?_)
                  refine va_iast hx hb hK hP hD hS 9 0 rfl rfl (tr_in h_87219 (by decide) (by decide)) dX6_keepEven_82 (fun H locs hP hD hS => ?_)
                  obtain ⟨f_87345, hP, hD⟩ : ∃ FX : Nat → Int32, va_P D vwCl [(sv, .inr (6, [.ref n, .ref co, .ref sv_keep, .ref sv_scaled])), (n, .inr (2, [.int n_nodes, .ref n_kind, .ref n_pay, .ref n_name, .ref n_ways, .ref n_held, .ref n_targets, .ref n_weights])), (n_kind, .inl (g 0, 12, .inl n_fkind)), (n_pay, .inl (g 0, 12, .inl n_fpay)), (n_ways, .inl (g 0, 12, .inl n_fways)), (n_held, .inl (g 0, 12, .inl n_fheld)), (n_targets, .inl (g 0, 36, .inl n_ftargets)), (vs, .inr (10, [.ref vs_part, .long vsw])), (vs_part, .inl (g 1, 12, .inr (.inl vsp))), (sv_keep, .inl (g 0, 12, .inl FX))] H ∧ va_D A [(sv, .inr (6, [.ref n, .ref co, .ref sv_keep, .ref sv_scaled])), (n, .inr (2, [.int n_nodes, .ref n_kind, .ref n_pay, .ref n_name, .ref n_ways, .ref n_held, .ref n_targets, .ref n_weights])), (n_kind, .inl (g 0, 12, .inl n_fkind)), (n_pay, .inl (g 0, 12, .inl n_fpay)), (n_ways, .inl (g 0, 12, .inl n_fways)), (n_held, .inl (g 0, 12, .inl n_fheld)), (n_targets, .inl (g 0, 36, .inl n_ftargets)), (vs, .inr (10, [.ref vs_part, .long vsw])), (vs_part, .inl (g 1, 12, .inr (.inl vsp))), (sv_keep, .inl (g 0, 12, .inl FX))] := ⟨_, hP, hD⟩
                  have hP : va_P D vwCl [(sv, .inr (6, [.ref n, .ref co, .ref sv_keep, .ref sv_scaled])), (n, .inr (2, [.int n_nodes, .ref n_kind, .ref n_pay, .ref n_name, .ref n_ways, .ref n_held, .ref n_targets, .ref n_weights])), (n_kind, .inl (g 0, 12, .inl n_fkind)), (n_pay, .inl (g 0, 12, .inl n_fpay)), (n_ways, .inl (g 0, 12, .inl n_fways)), (n_held, .inl (g 0, 12, .inl n_fheld)), (n_targets, .inl (g 0, 36, .inl n_ftargets)), (vs, .inr (10, [.ref vs_part, .long vsw])), (vs_part, .inl (g 1, 12, .inr (.inl vsp))), (sv_keep, .inl (g 0, 12, .inl f_87345))] H := hP
                  have hD : va_D A [(sv, .inr (6, [.ref n, .ref co, .ref sv_keep, .ref sv_scaled])), (n, .inr (2, [.int n_nodes, .ref n_kind, .ref n_pay, .ref n_name, .ref n_ways, .ref n_held, .ref n_targets, .ref n_weights])), (n_kind, .inl (g 0, 12, .inl n_fkind)), (n_pay, .inl (g 0, 12, .inl n_fpay)), (n_ways, .inl (g 0, 12, .inl n_fways)), (n_held, .inl (g 0, 12, .inl n_fheld)), (n_targets, .inl (g 0, 36, .inl n_ftargets)), (vs, .inr (10, [.ref vs_part, .long vsw])), (vs_part, .inl (g 1, 12, .inr (.inl vsp))), (sv_keep, .inl (g 0, 12, .inl f_87345))] := hD
                  obtain ⟨v_87346, v_87346_e⟩ : ∃ y : Int32, y = x_87320 + Int32.ofInt 1 := ⟨_, rfl⟩
                  have h_v_87346 : 1 ≤ (v_87346 : Int32).toInt ∧ (v_87346 : Int32).toInt ≤ 3 := by rw [v_87346_e]; exact tr_add h_87325 (⟨by decide, by decide⟩ : 1 ≤ (Int32.ofInt 1 : Int32).toInt ∧ (Int32.ofInt 1 : Int32).toInt ≤ 1) (by decide) (by decide) (by decide) (by decide)
                  have q_v_87346 : v_87346.toInt = x_87320.toInt + 1 := by rw [v_87346_e]; exact tr_addE h_87325 (⟨by decide, by decide⟩ : 1 ≤ (Int32.ofInt 1 : Int32).toInt ∧ (Int32.ofInt 1 : Int32).toInt ≤ 1) (by decide) (by decide)
                  refine lv_iinc (v := v_87346) (lv' := [(3, .int v_87346), (2, .int x_87215), (0, .ref sv), (1, .ref vs)]) hx hb dX6_keepEven_83 hl (k := 0) rfl v_87346_e.symm (by decide) rfl (fun ls hl => ?_)
                  refine lv_goto (tgt := 22) hx hb dX6_keepEven_86 (by decide) ?_
                  exact ih_87322 v_87346 f_87345 H _ ls (tr_w h_v_87346 (by decide) (by decide)) (by (first | (clear h_n_nodes h_x_87215 c_87218_i h_87219 h_87220 hw_87329 c_87330_i h_87332 hw_87335 h_v_87338 c_87339_i h_87340; omega) | omega)) (hP.sub [0, 1, 2, 3, 4, 5, 6, 7, 8, 9] rfl) (hD.sub [0, 1, 2, 3, 4, 5, 6, 7, 8, 9] (by decide) rfl) hS (lv_sub hl [0, 1, 2, 3] rfl)
        exact lp_87322 4 0 f_87221 H _ ls (⟨by decide, by decide⟩ : 0 ≤ (0 : Int32).toInt ∧ (0 : Int32).toInt ≤ 3) (by decide) (hP.sub [0, 1, 2, 3, 4, 5, 6, 7, 8, 9] rfl) (hD.sub [0, 1, 2, 3, 4, 5, 6, 7, 8, 9] (by decide) rfl) hS (lv_sub hl [0, 1, 2, 3] rfl)
  exact lp_87217 13 0 kpf s.heap _ ls (⟨by decide, by decide⟩ : 0 ≤ (0 : Int32).toInt ∧ (0 : Int32).toInt ≤ 12) (by decide) (hP.sub [0, 1, 2, 3, 4, 5, 6, 7, 8, 9] rfl) (hD.sub [0, 1, 2, 3, 4, 5, 6, 7, 8, 9] (by decide) rfl) hS (lv_sub hl [0, 1, 2] rfl)
set_option maxHeartbeats 4000000 in
set_option maxRecDepth 100000 in
theorem c_X6_isBrought (l : Launch) (D : va_G) (g : Nat → ClassId) (sv : Nat) (p0 : Int32) (p1 : Int32) (vs : Nat) (n : Nat) (co : Nat) (sv_keep : Nat) (sv_scaled : Nat) (n_nodes : Int32) (n_kind : Nat) (n_pay : Nat) (n_name : Nat) (n_ways : Nat) (n_held : Nat) (n_targets : Nat) (n_weights : Nat) (n_fkind : Nat → Int32) (n_fpay : Nat → Int32) (n_fways : Nat → Int32) (n_fheld : Nat → Int32) (n_ftargets : Nat → Int32) (vs_part : Nat) (vsw : Int64) (vsp : Nat → Int64) (kpf : Nat → Int32) (h_p0 : 0 ≤ (p0 : Int32).toInt ∧ (p0 : Int32).toInt ≤ 11) (h_n_nodes : 0 ≤ (n_nodes : Int32).toInt ∧ (n_nodes : Int32).toInt ≤ 12) (h_n_fkind : ∀ j : Nat, 0 ≤ (n_fkind j).toInt ∧ (n_fkind j).toInt ≤ 3) (h_n_fways : ∀ j : Nat, 0 ≤ (n_fways j).toInt ∧ (n_fways j).toInt ≤ 3) (h_n_fheld : ∀ j : Nat, (-1) ≤ (n_fheld j).toInt ∧ (n_fheld j).toInt ≤ 2) (h_n_ftargets : ∀ j : Nat, 0 ≤ (n_ftargets j).toInt ∧ (n_ftargets j).toInt ≤ 11) : Met l yX6_isBrought (.code yX6_isBrought cX6_isBrought 9 (some .boolean) :: wsL_law) ({ frames := 1, cells := 0, slots := 0, locals := 22 }) (va_Pc [.ref sv, .int p0, .int p1, .ref vs] (fun U => va_P D vwCl [(sv, .inr (6, [.ref n, .ref co, .ref sv_keep, .ref sv_scaled])), (n, .inr (2, [.int n_nodes, .ref n_kind, .ref n_pay, .ref n_name, .ref n_ways, .ref n_held, .ref n_targets, .ref n_weights])), (n_kind, .inl (g 0, 12, .inl n_fkind)), (n_pay, .inl (g 0, 12, .inl n_fpay)), (n_ways, .inl (g 0, 12, .inl n_fways)), (n_held, .inl (g 0, 12, .inl n_fheld)), (n_targets, .inl (g 0, 36, .inl n_ftargets)), (vs, .inr (10, [.ref vs_part, .long vsw])), (vs_part, .inl (g 1, 12, .inr (.inl vsp))), (sv_keep, .inl (g 0, 12, .inl kpf))] U.heap ∧ va_K D vwCl (TY g) U)) (vp_Si (fun r => 0 ≤ (r : Int32).toInt ∧ (r : Int32).toInt ≤ 1)) 0 0 (fun _ => False) := by
  refine Met.ofW (cc := cX6_isBrought) (maxL := 9) (ret := (some .boolean)) (by decide) rfl ?_
  intro p e s m args below meth c s₁ B hml hv
  obtain ⟨ha, hP, hK⟩ := hv
  have hx := B.exec
  have hb := B.bytes
  have hr := B.returns
  have hts0 := atoms_spec (ws := (.code yX6_isBrought cX6_isBrought 9 (some .boolean) :: wsL_law)) B.pre
  have hts : ∀ w ∈ wsL_law, w.before args s = true := fun w h => hts0 w (List.mem_cons_of_mem _ h)
  have hown : s.vm.findClass RX6 = some m.cls := findClass_of_methodNamed B.named
  have hlocks := B.notSynchronized
  have hP : va_P D vwCl [(sv, .inr (6, [.ref n, .ref co, .ref sv_keep, .ref sv_scaled])), (n, .inr (2, [.int n_nodes, .ref n_kind, .ref n_pay, .ref n_name, .ref n_ways, .ref n_held, .ref n_targets, .ref n_weights])), (n_kind, .inl (g 0, 12, .inl n_fkind)), (n_pay, .inl (g 0, 12, .inl n_fpay)), (n_ways, .inl (g 0, 12, .inl n_fways)), (n_held, .inl (g 0, 12, .inl n_fheld)), (n_targets, .inl (g 0, 36, .inl n_ftargets)), (vs, .inr (10, [.ref vs_part, .long vsw])), (vs_part, .inl (g 1, 12, .inr (.inl vsp))), (sv_keep, .inl (g 0, 12, .inl kpf))] s.heap := hP
  refine W.eq (g2 := entryFrame m ([.ref sv, .int p0, .int p1, .ref vs] : List Value).toArray 9) (by rw [ha]) ?_
  have hl := lv_entry ([.ref sv, .int p0, .int p1, .ref vs]) (n := 9) (Nat.le_of_ble_eq_true rfl)
  rw [lg_entry_eq]
  generalize (lg_sl ([.ref sv, .int p0, .int p1, .ref vs]) ++ List.replicate (9 - (lg_sl ([.ref sv, .int p0, .int p1, .ref vs])).length) Slot.unset).toArray = ls at hl ⊢
  have hl : lv_has ls 9 [(0, .ref sv), (1, .int p0), (2, .int p1), (3, .ref vs)] := hl
  refine lv_iconst (v := 0) hx hb dX6_isBrought_0 (by decide) ?_
  refine lv_istore (lv' := [(4, .int 0), (0, .ref sv), (1, .int p0), (2, .int p1), (3, .ref vs)]) hx hb dX6_isBrought_1 hl (by decide) rfl (fun ls hl => ?_)
  refine lv_iconst (v := 1) hx hb dX6_isBrought_3 (by decide) ?_
  refine lv_istore (lv' := [(5, .int 1), (4, .int 0), (0, .ref sv), (1, .int p0), (2, .int p1), (3, .ref vs)]) hx hb dX6_isBrought_4 hl (by decide) rfl (fun ls hl => ?_)
  refine lv_iconst (v := 0) hx hb dX6_isBrought_6 (by decide) ?_
  refine lv_istore (lv' := [(6, .int 0), (5, .int 1), (4, .int 0), (0, .ref sv), (1, .int p0), (2, .int p1), (3, .ref vs)]) hx hb dX6_isBrought_7 hl (by decide) rfl (fun ls hl => ?_)
  have lp_87563 : ∀ (n_87563 : Nat) (x_87560 : Int32) (x_87561 : Int32) (x_87562 : Int32) (ls : Array Slot), (0 ≤ (x_87560 : Int32).toInt ∧ (x_87560 : Int32).toInt ≤ 3) → (0 ≤ (x_87561 : Int32).toInt ∧ (x_87561 : Int32).toInt ≤ 1) → (0 ≤ (x_87562 : Int32).toInt ∧ (x_87562 : Int32).toInt ≤ 1) → (3 - x_87560.toInt < (n_87563 : Int)) → lv_has ls 9 [(6, .int x_87560), (5, .int x_87561), (4, .int x_87562), (0, .ref sv), (1, .int p0), (2, .int p1), (3, .ref vs)] → W p l e (headSpec (.code yX6_isBrought cX6_isBrought 9 (some .boolean) :: wsL_law) ({ frames := 1, cells := 0, slots := 0, locals := 22 })).room s m args below meth c s.heap [] 0 0 (MQ below (vp_Si (fun r => 0 ≤ (r : Int32).toInt ∧ (r : Int32).toInt ≤ 1)) args s 0 0 (fun _ => False)) (F0 m 9 ls []) := by
    intro n_87563
    induction n_87563 with
    | zero =>
      intro x_87560 x_87561 x_87562 ls h_x_87560 h_x_87561 h_x_87562 hm_87563 hl
      exfalso; omega
    | succ n_87563 ih_87563 =>
      intro x_87560 x_87561 x_87562 ls h_x_87560 h_x_87561 h_x_87562 hm_87563 hl
      refine lv_iload hx hb dX6_isBrought_9 (lv_at hl 0 rfl) ?_
      refine lv_aload_n hx hb dX6_isBrought_11 rfl (lv_at hl 3 rfl) ?_
      refine va_get (D := D) (ci := 6) (v := .ref n) (C := RX6) (T := TX6) (N := 4) hx hb hts inlX6 hown hK hP 0 rfl rfl 0 (by decide) (hts (Cond.fieldLink RX6 19 "ChanceRings$Solver" "net" "LChanceRings$Net;") qw_548) (fun _ h9 => h9) rfl dX6_isBrought_12 ?_
      refine va_get (D := D) (ci := 2) (v := .ref n_ways) (C := RX2) (T := TX2) (N := 8) hx hb hts inlX2 hown hK hP 1 rfl rfl 4 (by decide) (hts (Cond.fieldLink RX6 68 "ChanceRings$Net" "ways" "[I") qw_552) (fun _ h9 => h9) rfl dX6_isBrought_15 ?_
      refine lv_iload_n hx hb dX6_isBrought_18 rfl (lv_at hl 4 rfl) ?_
      refine va_iald hx hb hK hP 4 0 rfl rfl (tr_in h_p0 (by decide) (by decide)) dX6_isBrought_19 ?_
      refine lv_topi (fun v_87564 v_87564_e => ?_)
      have h_v_87564 : 0 ≤ (v_87564 : Int32).toInt ∧ (v_87564 : Int32).toInt ≤ 3 := by rw [v_87564_e]; exact h_n_fways _
      refine lv_icmp_ge (tgt := 133) hx hb dX6_isBrought_20 (by decide) (fun c_87565 => ?_) (fun c_87565 => ?_)
      · skip
        refine lv_aload_n hx hb dX6_isBrought_133 rfl (lv_at hl 3 rfl) ?_
        refine va_get (D := D) (ci := 6) (v := .ref n) (C := RX6) (T := TX6) (N := 4) hx hb hts inlX6 hown hK hP 0 rfl rfl 0 (by decide) (hts (Cond.fieldLink RX6 19 "ChanceRings$Solver" "net" "LChanceRings$Net;") qw_548) (fun _ h9 => h9) rfl dX6_isBrought_134 ?_
        refine va_get (D := D) (ci := 2) (v := .ref n_kind) (C := RX2) (T := TX2) (N := 8) hx hb hts inlX2 hown hK hP 1 rfl rfl 1 (by decide) (hts (Cond.fieldLink RX6 61 "ChanceRings$Net" "kind" "[I") qw_551) (fun _ h9 => h9) rfl dX6_isBrought_137 ?_
        refine lv_iload_n hx hb dX6_isBrought_140 rfl (lv_at hl 4 rfl) ?_
        refine va_iald hx hb hK hP 2 0 rfl rfl (tr_in h_p0 (by decide) (by decide)) dX6_isBrought_141 ?_
        refine lv_topi (fun v_87568 v_87568_e => ?_)
        have h_v_87568 : 0 ≤ (v_87568 : Int32).toInt ∧ (v_87568 : Int32).toInt ≤ 3 := by rw [v_87568_e]; exact h_n_fkind _
        refine lv_iconst (v := 2) hx hb dX6_isBrought_142 (by decide) ?_
        refine lv_icmp_ne (tgt := 164) hx hb dX6_isBrought_143 (by decide) (fun c_87569 => ?_) (fun c_87569 => ?_)
        · skip
          refine lv_iload hx hb dX6_isBrought_164 (lv_at hl 2 rfl) ?_
          exact W.zret (v := x_87562) hx hb hr (tr_z (tr_w h_x_87562 (by decide) (by decide))) (fun t ht hW => ⟨x_87562, rfl, (tr_w h_x_87562 (by decide) (by decide)), ht⟩) (fun _ h => nomatch h) dX6_isBrought_166
        · skip
          have c_87569_i : (v_87568 : Int32).toInt = (2 : Int32).toInt := congrArg Int32.toInt c_87569
          have h_87570 : 2 ≤ (v_87568 : Int32).toInt ∧ (v_87568 : Int32).toInt ≤ 2 := nr_eq_l h_v_87568 (⟨by decide, by decide⟩ : 2 ≤ (2 : Int32).toInt ∧ (2 : Int32).toInt ≤ 2) c_87569_i (by decide) (by decide)
          refine lv_iload hx hb dX6_isBrought_146 (lv_at hl 2 rfl) ?_
          refine lv_if_eq (tgt := 160) hx hb dX6_isBrought_148 (by decide) (fun c_87571 => ?_) (fun c_87571 => ?_)
          · skip
            have c_87571_i : (x_87562 : Int32).toInt = (0 : Int32).toInt := congrArg Int32.toInt c_87571
            have h_87572 : 0 ≤ (x_87562 : Int32).toInt ∧ (x_87562 : Int32).toInt ≤ 0 := nr_eq_l h_x_87562 (⟨by decide, by decide⟩ : 0 ≤ (0 : Int32).toInt ∧ (0 : Int32).toInt ≤ 0) c_87571_i (by decide) (by decide)
            refine lv_iconst (v := 0) hx hb dX6_isBrought_160 (by decide) ?_
            refine lv_goto (tgt := 166) hx hb dX6_isBrought_161 (by decide) ?_
            exact W.zret (v := 0) hx hb hr (by decide) (fun t ht hW => ⟨0, rfl, (⟨by decide, by decide⟩ : 0 ≤ (0 : Int32).toInt ∧ (0 : Int32).toInt ≤ 1), ht⟩) (fun _ h => nomatch h) dX6_isBrought_166
          · skip
            have c_87571_i : ¬ (x_87562 : Int32).toInt = (0 : Int32).toInt := (fun q => c_87571 (Int32.toInt_inj.mp q))
            have h_87573 : 1 ≤ (x_87562 : Int32).toInt ∧ (x_87562 : Int32).toInt ≤ 1 := nr_ne_l h_x_87562 (⟨by decide, by decide⟩ : 0 ≤ (0 : Int32).toInt ∧ (0 : Int32).toInt ≤ 0) c_87571_i (by decide) (by decide)
            refine lv_iload hx hb dX6_isBrought_151 (lv_at hl 1 rfl) ?_
            refine lv_if_eq (tgt := 160) hx hb dX6_isBrought_153 (by decide) (fun c_87574 => ?_) (fun c_87574 => ?_)
            · skip
              have c_87574_i : (x_87561 : Int32).toInt = (0 : Int32).toInt := congrArg Int32.toInt c_87574
              have h_87575 : 0 ≤ (x_87561 : Int32).toInt ∧ (x_87561 : Int32).toInt ≤ 0 := nr_eq_l h_x_87561 (⟨by decide, by decide⟩ : 0 ≤ (0 : Int32).toInt ∧ (0 : Int32).toInt ≤ 0) c_87574_i (by decide) (by decide)
              refine lv_iconst (v := 0) hx hb dX6_isBrought_160 (by decide) ?_
              refine lv_goto (tgt := 166) hx hb dX6_isBrought_161 (by decide) ?_
              exact W.zret (v := 0) hx hb hr (by decide) (fun t ht hW => ⟨0, rfl, (⟨by decide, by decide⟩ : 0 ≤ (0 : Int32).toInt ∧ (0 : Int32).toInt ≤ 1), ht⟩) (fun _ h => nomatch h) dX6_isBrought_166
            · skip
              have c_87574_i : ¬ (x_87561 : Int32).toInt = (0 : Int32).toInt := (fun q => c_87574 (Int32.toInt_inj.mp q))
              have h_87576 : 1 ≤ (x_87561 : Int32).toInt ∧ (x_87561 : Int32).toInt ≤ 1 := nr_ne_l h_x_87561 (⟨by decide, by decide⟩ : 0 ≤ (0 : Int32).toInt ∧ (0 : Int32).toInt ≤ 0) c_87574_i (by decide) (by decide)
              refine lv_iconst (v := 1) hx hb dX6_isBrought_156 (by decide) ?_
              refine lv_goto (tgt := 166) hx hb dX6_isBrought_157 (by decide) ?_
              exact W.zret (v := 1) hx hb hr (by decide) (fun t ht hW => ⟨1, rfl, (⟨by decide, by decide⟩ : 0 ≤ (1 : Int32).toInt ∧ (1 : Int32).toInt ≤ 1), ht⟩) (fun _ h => nomatch h) dX6_isBrought_166
      · skip
        have c_87565_i := Int32.lt_iff_toInt_lt.mp (Int32.not_le.mp c_87565)
        have h_87566 : 0 ≤ (x_87560 : Int32).toInt ∧ (x_87560 : Int32).toInt ≤ 2 := nr_lt_l h_x_87560 h_v_87564 c_87565_i (by decide) (by decide)
        have h_87567 : 1 ≤ (v_87564 : Int32).toInt ∧ (v_87564 : Int32).toInt ≤ 3 := nr_lt_r h_x_87560 h_v_87564 c_87565_i (by decide) (by decide)
        refine lv_aload_n hx hb dX6_isBrought_23 rfl (lv_at hl 3 rfl) ?_
        refine va_get (D := D) (ci := 6) (v := .ref n) (C := RX6) (T := TX6) (N := 4) hx hb hts inlX6 hown hK hP 0 rfl rfl 0 (by decide) (hts (Cond.fieldLink RX6 19 "ChanceRings$Solver" "net" "LChanceRings$Net;") qw_548) (fun _ h9 => h9) rfl dX6_isBrought_24 ?_
        refine lv_iload_n hx hb dX6_isBrought_27 rfl (lv_at hl 4 rfl) ?_
        refine lv_iload hx hb dX6_isBrought_28 (lv_at hl 0 rfl) ?_
        have hPc := hP.sub (ws' := [(n, .inr (2, [.int n_nodes, .ref n_kind, .ref n_pay, .ref n_name, .ref n_ways, .ref n_held, .ref n_targets, .ref n_weights])), (n_targets, .inl (g 0, 36, .inl n_ftargets))]) [1, 6] rfl
        refine vp_callSi (va_Run.run (va_runV (As := [.int p0, .int x_87560]) (rest := []) ⟨hx, hb, hml, hown, hts⟩ (c_X2_target l D g n p0 x_87560 n_nodes n_kind n_pay n_name n_ways n_held n_targets n_weights n_ftargets (tr_w h_p0 (by decide) (by decide)) (tr_w h_87566 (by decide) (by decide)) (tr_w h_n_nodes (by decide) (by decide)) (tr_wa h_n_ftargets (by decide) (by decide))) (cwV 2 hts (tz_gV qw_554 qw_325 qw_326 qw_322 qw_327) rfl rfl rfl (by decide +kernel) ⟨Nat.le_of_ble_eq_true rfl, Nat.le_of_ble_eq_true rfl⟩) ⟨tz_blS, va_recv hK hPc (ci := 2) (q0 := 0) rfl rfl, tz_preS hPc hK⟩ rfl rfl hl.1 rfl (lv_room (Nat.le_of_ble_eq_true rfl)) dX6_isBrought_30 ⟨Nat.le_of_ble_eq_true rfl, Nat.le_of_ble_eq_true rfl⟩)) (fun r_87577 hw => ?_)
        have hw_87578 : 0 ≤ (r_87577 : Int32).toInt ∧ (r_87577 : Int32).toInt ≤ 11 := hw
        refine lv_istore (lv' := [(7, .int r_87577), (6, .int x_87560), (5, .int x_87561), (4, .int x_87562), (0, .ref sv), (1, .int p0), (2, .int p1), (3, .ref vs)]) hx hb dX6_isBrought_33 hl (by decide) rfl (fun ls hl => ?_)
        refine lv_iload_n hx hb dX6_isBrought_35 rfl (lv_at hl 6 rfl) ?_
        refine lv_iload hx hb dX6_isBrought_36 (lv_at hl 0 rfl) ?_
        refine lv_ishr hx hb dX6_isBrought_38 ?_
        refine lv_topi (fun v_87579 v_87579_e => ?_)
        refine lv_iconst (v := 1) hx hb dX6_isBrought_39 (by decide) ?_
        refine lv_iand hx hb dX6_isBrought_40 ?_
        refine lv_topi (fun v_87580 v_87580_e => ?_)
        refine lv_if_eq (tgt := 48) hx hb dX6_isBrought_41 (by decide) (fun c_87581 => ?_) (fun c_87581 => ?_)
        · skip
          have h_87582 : 0 ≤ (v_87580 : Int32).toInt ∧ (v_87580 : Int32).toInt ≤ 0 := by rw [c_87581]; exact ⟨by decide, by decide⟩
          refine lv_iconst (v := 0) hx hb dX6_isBrought_48 (by decide) ?_
          refine lv_istore (lv' := [(8, .int 0), (7, .int r_87577), (6, .int x_87560), (5, .int x_87561), (4, .int x_87562), (0, .ref sv), (1, .int p0), (2, .int p1), (3, .ref vs)]) hx hb dX6_isBrought_49 hl (by decide) rfl (fun ls hl => ?_)
          refine lv_aload_n hx hb dX6_isBrought_51 rfl (lv_at hl 5 rfl) ?_
          refine va_get (D := D) (ci := 6) (v := .ref n) (C := RX6) (T := TX6) (N := 4) hx hb hts inlX6 hown hK hP 0 rfl rfl 0 (by decide) (hts (Cond.fieldLink RX6 19 "ChanceRings$Solver" "net" "LChanceRings$Net;") qw_548) (fun _ h9 => h9) rfl dX6_isBrought_52 ?_
          refine va_get (D := D) (ci := 2) (v := .ref n_kind) (C := RX2) (T := TX2) (N := 8) hx hb hts inlX2 hown hK hP 1 rfl rfl 1 (by decide) (hts (Cond.fieldLink RX6 61 "ChanceRings$Net" "kind" "[I") qw_551) (fun _ h9 => h9) rfl dX6_isBrought_55 ?_
          refine lv_iload_n hx hb dX6_isBrought_58 rfl (lv_at hl 6 rfl) ?_
          refine va_iald hx hb hK hP 2 0 rfl rfl (tr_in h_p0 (by decide) (by decide)) dX6_isBrought_59 ?_
          refine lv_topi (fun v_87583 v_87583_e => ?_)
          have h_v_87583 : 0 ≤ (v_87583 : Int32).toInt ∧ (v_87583 : Int32).toInt ≤ 3 := by rw [v_87583_e]; exact h_n_fkind _
          refine lv_iconst (v := 3) hx hb dX6_isBrought_60 (by decide) ?_
          refine lv_icmp_ne (tgt := 99) hx hb dX6_isBrought_61 (by decide) (fun c_87584 => ?_) (fun c_87584 => ?_)
          · skip
            have c_87584_i : ¬ (v_87583 : Int32).toInt = (3 : Int32).toInt := (fun q => c_87584 (Int32.toInt_inj.mp q))
            have h_87585 : 0 ≤ (v_87583 : Int32).toInt ∧ (v_87583 : Int32).toInt ≤ 2 := nr_ne_l h_v_87583 (⟨by decide, by decide⟩ : 3 ≤ (3 : Int32).toInt ∧ (3 : Int32).toInt ≤ 3) c_87584_i (by decide) (by decide)
            refine lv_aload_n hx hb dX6_isBrought_99 rfl (lv_at hl 5 rfl) ?_
            refine va_get (D := D) (ci := 6) (v := .ref sv_keep) (C := RX6) (T := TX6) (N := 4) hx hb hts inlX6 hown hK hP 0 rfl rfl 2 (by decide) (hts (Cond.fieldLink RX6 9 "ChanceRings$Solver" "keep" "[I") qw_587) (fun _ h9 => h9) rfl dX6_isBrought_100 ?_
            refine lv_iload_n hx hb dX6_isBrought_103 rfl (lv_at hl 6 rfl) ?_
            refine va_iald hx hb hK hP 9 0 rfl rfl (tr_in h_p0 (by decide) (by decide)) dX6_isBrought_104 ?_
            refine lv_topi (fun v_87587 v_87587_e => ?_)
            refine lv_iload hx hb dX6_isBrought_105 (lv_at hl 2 rfl) ?_
            refine lv_ishr hx hb dX6_isBrought_107 ?_
            refine lv_topi (fun v_87588 v_87588_e => ?_)
            refine lv_iconst (v := 1) hx hb dX6_isBrought_108 (by decide) ?_
            refine lv_iand hx hb dX6_isBrought_109 ?_
            refine lv_topi (fun v_87589 v_87589_e => ?_)
            refine lv_if_eq (tgt := 127) hx hb dX6_isBrought_110 (by decide) (fun c_87590 => ?_) (fun c_87590 => ?_)
            · skip
              have h_87591 : 0 ≤ (v_87589 : Int32).toInt ∧ (v_87589 : Int32).toInt ≤ 0 := by rw [c_87590]; exact ⟨by decide, by decide⟩
              obtain ⟨v_87592, v_87592_e⟩ : ∃ y : Int32, y = x_87560 + Int32.ofInt 1 := ⟨_, rfl⟩
              have h_v_87592 : 1 ≤ (v_87592 : Int32).toInt ∧ (v_87592 : Int32).toInt ≤ 3 := by rw [v_87592_e]; exact tr_add h_87566 (⟨by decide, by decide⟩ : 1 ≤ (Int32.ofInt 1 : Int32).toInt ∧ (Int32.ofInt 1 : Int32).toInt ≤ 1) (by decide) (by decide) (by decide) (by decide)
              have q_v_87592 : v_87592.toInt = x_87560.toInt + 1 := by rw [v_87592_e]; exact tr_addE h_87566 (⟨by decide, by decide⟩ : 1 ≤ (Int32.ofInt 1 : Int32).toInt ∧ (Int32.ofInt 1 : Int32).toInt ≤ 1) (by decide) (by decide)
              refine lv_iinc (v := v_87592) (lv' := [(6, .int v_87592), (8, .int 0), (7, .int r_87577), (5, .int x_87561), (4, .int x_87562), (0, .ref sv), (1, .int p0), (2, .int p1), (3, .ref vs)]) hx hb dX6_isBrought_127 hl (k := 2) rfl v_87592_e.symm (by decide) rfl (fun ls hl => ?_)
              refine lv_goto (tgt := 9) hx hb dX6_isBrought_130 (by decide) ?_
              exact ih_87563 v_87592 x_87561 x_87562 ls (tr_w h_v_87592 (by decide) (by decide)) (tr_w h_x_87561 (by decide) (by decide)) (tr_w h_x_87562 (by decide) (by decide)) (by (first | (clear h_p0 h_n_nodes hw_87578 h_87582 h_v_87583 c_87584_i h_87585 h_87591; omega) | omega)) (lv_sub hl [0, 3, 4, 5, 6, 7, 8] rfl)
            · skip
              refine lv_iload hx hb dX6_isBrought_113 (lv_at hl 4 rfl) ?_
              refine lv_iload hx hb dX6_isBrought_115 (lv_at hl 0 rfl) ?_
              refine lv_ior hx hb dX6_isBrought_117 ?_
              refine lv_topi (fun v_87593 v_87593_e => ?_)
              have h_v_87593 : 0 ≤ (v_87593 : Int32).toInt ∧ (v_87593 : Int32).toInt ≤ 1 := by rw [v_87593_e]; exact tr_or01 (tr_w h_x_87562 (by decide) (by decide)) (⟨by decide, by decide⟩ : 0 ≤ (0 : Int32).toInt ∧ (0 : Int32).toInt ≤ 1)
              refine lv_istore (lv' := [(4, .int v_87593), (8, .int 0), (7, .int r_87577), (6, .int x_87560), (5, .int x_87561), (0, .ref sv), (1, .int p0), (2, .int p1), (3, .ref vs)]) hx hb dX6_isBrought_118 hl (by decide) rfl (fun ls hl => ?_)
              refine lv_iload hx hb dX6_isBrought_120 (lv_at hl 4 rfl) ?_
              refine lv_iload hx hb dX6_isBrought_122 (lv_at hl 1 rfl) ?_
              refine lv_iand hx hb dX6_isBrought_124 ?_
              refine lv_topi (fun v_87594 v_87594_e => ?_)
              have h_v_87594 : 0 ≤ (v_87594 : Int32).toInt ∧ (v_87594 : Int32).toInt ≤ 1 := by rw [v_87594_e]; exact tr_and01 (tr_w h_x_87561 (by decide) (by decide)) (⟨by decide, by decide⟩ : 0 ≤ (0 : Int32).toInt ∧ (0 : Int32).toInt ≤ 1)
              refine lv_istore (lv' := [(5, .int v_87594), (4, .int v_87593), (8, .int 0), (7, .int r_87577), (6, .int x_87560), (0, .ref sv), (1, .int p0), (2, .int p1), (3, .ref vs)]) hx hb dX6_isBrought_125 hl (by decide) rfl (fun ls hl => ?_)
              obtain ⟨v_87595, v_87595_e⟩ : ∃ y : Int32, y = x_87560 + Int32.ofInt 1 := ⟨_, rfl⟩
              have h_v_87595 : 1 ≤ (v_87595 : Int32).toInt ∧ (v_87595 : Int32).toInt ≤ 3 := by rw [v_87595_e]; exact tr_add h_87566 (⟨by decide, by decide⟩ : 1 ≤ (Int32.ofInt 1 : Int32).toInt ∧ (Int32.ofInt 1 : Int32).toInt ≤ 1) (by decide) (by decide) (by decide) (by decide)
              have q_v_87595 : v_87595.toInt = x_87560.toInt + 1 := by rw [v_87595_e]; exact tr_addE h_87566 (⟨by decide, by decide⟩ : 1 ≤ (Int32.ofInt 1 : Int32).toInt ∧ (Int32.ofInt 1 : Int32).toInt ≤ 1) (by decide) (by decide)
              refine lv_iinc (v := v_87595) (lv' := [(6, .int v_87595), (5, .int v_87594), (4, .int v_87593), (8, .int 0), (7, .int r_87577), (0, .ref sv), (1, .int p0), (2, .int p1), (3, .ref vs)]) hx hb dX6_isBrought_127 hl (k := 4) rfl v_87595_e.symm (by decide) rfl (fun ls hl => ?_)
              refine lv_goto (tgt := 9) hx hb dX6_isBrought_130 (by decide) ?_
              exact ih_87563 v_87595 v_87594 v_87593 ls (tr_w h_v_87595 (by decide) (by decide)) (tr_w h_v_87594 (by decide) (by decide)) (tr_w h_v_87593 (by decide) (by decide)) (by (first | (clear h_p0 h_n_nodes h_x_87561 h_x_87562 hw_87578 h_87582 h_v_87583 c_87584_i h_87585; omega) | omega)) (lv_sub hl [0, 1, 2, 5, 6, 7, 8] rfl)
          · skip
            have c_87584_i : (v_87583 : Int32).toInt = (3 : Int32).toInt := congrArg Int32.toInt c_87584
            have h_87586 : 3 ≤ (v_87583 : Int32).toInt ∧ (v_87583 : Int32).toInt ≤ 3 := nr_eq_l h_v_87583 (⟨by decide, by decide⟩ : 3 ≤ (3 : Int32).toInt ∧ (3 : Int32).toInt ≤ 3) c_87584_i (by decide) (by decide)
            refine lv_iload hx hb dX6_isBrought_64 (lv_at hl 4 rfl) ?_
            refine lv_iload hx hb dX6_isBrought_66 (lv_at hl 0 rfl) ?_
            refine lv_if_ne (tgt := 88) hx hb dX6_isBrought_68 (by decide) (fun h9 => (h9 (by decide)).elim) (fun _ => ?_)
            refine lv_aload_n hx hb dX6_isBrought_71 rfl (lv_at hl 8 rfl) ?_
            refine va_get (D := D) (ci := 10) (v := .ref vs_part) (C := RX10) (T := TX10) (N := 2) hx hb hts inlX10 hown hK hP 7 rfl rfl 0 (by decide) (hts (Cond.fieldLink RX6 71 "ChanceRings$Values" "part" "[J") qw_553) (fun _ h9 => h9) rfl dX6_isBrought_72 ?_
            refine lv_iload hx hb dX6_isBrought_75 (lv_at hl 1 rfl) ?_
            refine va_lald hx hb hK hP 8 1 rfl rfl (tr_in hw_87578 (by decide) (by decide)) dX6_isBrought_77 ?_
            refine lv_topl (fun w_87596 _ => ?_)
            refine lv_aload_n hx hb dX6_isBrought_78 rfl (lv_at hl 8 rfl) ?_
            refine va_get (D := D) (ci := 10) (v := .ref vs_part) (C := RX10) (T := TX10) (N := 2) hx hb hts inlX10 hown hK hP 7 rfl rfl 0 (by decide) (hts (Cond.fieldLink RX6 71 "ChanceRings$Values" "part" "[J") qw_553) (fun _ h9 => h9) rfl dX6_isBrought_79 ?_
            refine lv_iload_n hx hb dX6_isBrought_82 rfl (lv_at hl 6 rfl) ?_
            refine va_lald hx hb hK hP 8 1 rfl rfl (tr_in h_p0 (by decide) (by decide)) dX6_isBrought_83 ?_
            refine lv_topl (fun w_87597 _ => ?_)
            refine W.lcmp hx hb dX6_isBrought_84 ?_
            refine lv_topi (fun v_87598 v_87598_e => ?_)
            have h_v_87598 : (-1) ≤ (v_87598 : Int32).toInt ∧ (v_87598 : Int32).toInt ≤ 1 := by rw [v_87598_e]; exact tr_cmp _ _
            refine lv_if_eq (tgt := 92) hx hb dX6_isBrought_85 (by decide) (fun c_87599 => ?_) (fun c_87599 => ?_)
            · skip
              have c_87599_i : (v_87598 : Int32).toInt = (0 : Int32).toInt := congrArg Int32.toInt c_87599
              have h_87600 : 0 ≤ (v_87598 : Int32).toInt ∧ (v_87598 : Int32).toInt ≤ 0 := nr_eq_l h_v_87598 (⟨by decide, by decide⟩ : 0 ≤ (0 : Int32).toInt ∧ (0 : Int32).toInt ≤ 0) c_87599_i (by decide) (by decide)
              refine lv_iconst (v := 0) hx hb dX6_isBrought_92 (by decide) ?_
              refine lv_ior hx hb dX6_isBrought_93 ?_
              refine lv_topi (fun v_87601 v_87601_e => ?_)
              have h_v_87601 : 0 ≤ (v_87601 : Int32).toInt ∧ (v_87601 : Int32).toInt ≤ 1 := by rw [v_87601_e]; exact tr_or01 (tr_w h_x_87562 (by decide) (by decide)) (⟨by decide, by decide⟩ : 0 ≤ (0 : Int32).toInt ∧ (0 : Int32).toInt ≤ 1)
              refine lv_istore (lv' := [(4, .int v_87601), (8, .int 0), (7, .int r_87577), (6, .int x_87560), (5, .int x_87561), (0, .ref sv), (1, .int p0), (2, .int p1), (3, .ref vs)]) hx hb dX6_isBrought_94 hl (by decide) rfl (fun ls hl => ?_)
              refine lv_goto (tgt := 127) hx hb dX6_isBrought_96 (by decide) ?_
              obtain ⟨v_87602, v_87602_e⟩ : ∃ y : Int32, y = x_87560 + Int32.ofInt 1 := ⟨_, rfl⟩
              have h_v_87602 : 1 ≤ (v_87602 : Int32).toInt ∧ (v_87602 : Int32).toInt ≤ 3 := by rw [v_87602_e]; exact tr_add h_87566 (⟨by decide, by decide⟩ : 1 ≤ (Int32.ofInt 1 : Int32).toInt ∧ (Int32.ofInt 1 : Int32).toInt ≤ 1) (by decide) (by decide) (by decide) (by decide)
              have q_v_87602 : v_87602.toInt = x_87560.toInt + 1 := by rw [v_87602_e]; exact tr_addE h_87566 (⟨by decide, by decide⟩ : 1 ≤ (Int32.ofInt 1 : Int32).toInt ∧ (Int32.ofInt 1 : Int32).toInt ≤ 1) (by decide) (by decide)
              refine lv_iinc (v := v_87602) (lv' := [(6, .int v_87602), (4, .int v_87601), (8, .int 0), (7, .int r_87577), (5, .int x_87561), (0, .ref sv), (1, .int p0), (2, .int p1), (3, .ref vs)]) hx hb dX6_isBrought_127 hl (k := 3) rfl v_87602_e.symm (by decide) rfl (fun ls hl => ?_)
              refine lv_goto (tgt := 9) hx hb dX6_isBrought_130 (by decide) ?_
              exact ih_87563 v_87602 x_87561 v_87601 ls (tr_w h_v_87602 (by decide) (by decide)) (tr_w h_x_87561 (by decide) (by decide)) (tr_w h_v_87601 (by decide) (by decide)) (by (first | (clear h_p0 h_n_nodes h_x_87562 hw_87578 h_87582 h_v_87583 c_87584_i h_87586 h_v_87598 c_87599_i h_87600; omega) | omega)) (lv_sub hl [0, 4, 1, 5, 6, 7, 8] rfl)
            · skip
              refine lv_iconst (v := 1) hx hb dX6_isBrought_88 (by decide) ?_
              refine lv_goto (tgt := 93) hx hb dX6_isBrought_89 (by decide) ?_
              refine lv_ior hx hb dX6_isBrought_93 ?_
              refine lv_topi (fun v_87603 v_87603_e => ?_)
              have h_v_87603 : 0 ≤ (v_87603 : Int32).toInt ∧ (v_87603 : Int32).toInt ≤ 1 := by rw [v_87603_e]; exact tr_or01 (tr_w h_x_87562 (by decide) (by decide)) (⟨by decide, by decide⟩ : 0 ≤ (1 : Int32).toInt ∧ (1 : Int32).toInt ≤ 1)
              refine lv_istore (lv' := [(4, .int v_87603), (8, .int 0), (7, .int r_87577), (6, .int x_87560), (5, .int x_87561), (0, .ref sv), (1, .int p0), (2, .int p1), (3, .ref vs)]) hx hb dX6_isBrought_94 hl (by decide) rfl (fun ls hl => ?_)
              refine lv_goto (tgt := 127) hx hb dX6_isBrought_96 (by decide) ?_
              obtain ⟨v_87604, v_87604_e⟩ : ∃ y : Int32, y = x_87560 + Int32.ofInt 1 := ⟨_, rfl⟩
              have h_v_87604 : 1 ≤ (v_87604 : Int32).toInt ∧ (v_87604 : Int32).toInt ≤ 3 := by rw [v_87604_e]; exact tr_add h_87566 (⟨by decide, by decide⟩ : 1 ≤ (Int32.ofInt 1 : Int32).toInt ∧ (Int32.ofInt 1 : Int32).toInt ≤ 1) (by decide) (by decide) (by decide) (by decide)
              have q_v_87604 : v_87604.toInt = x_87560.toInt + 1 := by rw [v_87604_e]; exact tr_addE h_87566 (⟨by decide, by decide⟩ : 1 ≤ (Int32.ofInt 1 : Int32).toInt ∧ (Int32.ofInt 1 : Int32).toInt ≤ 1) (by decide) (by decide)
              refine lv_iinc (v := v_87604) (lv' := [(6, .int v_87604), (4, .int v_87603), (8, .int 0), (7, .int r_87577), (5, .int x_87561), (0, .ref sv), (1, .int p0), (2, .int p1), (3, .ref vs)]) hx hb dX6_isBrought_127 hl (k := 3) rfl v_87604_e.symm (by decide) rfl (fun ls hl => ?_)
              refine lv_goto (tgt := 9) hx hb dX6_isBrought_130 (by decide) ?_
              exact ih_87563 v_87604 x_87561 v_87603 ls (tr_w h_v_87604 (by decide) (by decide)) (tr_w h_x_87561 (by decide) (by decide)) (tr_w h_v_87603 (by decide) (by decide)) (by (first | (clear h_p0 h_n_nodes h_x_87562 hw_87578 h_87582 h_v_87583 c_87584_i h_87586 h_v_87598; omega) | omega)) (lv_sub hl [0, 4, 1, 5, 6, 7, 8] rfl)
        · skip
          refine lv_iconst (v := 1) hx hb dX6_isBrought_44 (by decide) ?_
          refine lv_goto (tgt := 49) hx hb dX6_isBrought_45 (by decide) ?_
          refine lv_istore (lv' := [(8, .int 1), (7, .int r_87577), (6, .int x_87560), (5, .int x_87561), (4, .int x_87562), (0, .ref sv), (1, .int p0), (2, .int p1), (3, .ref vs)]) hx hb dX6_isBrought_49 hl (by decide) rfl (fun ls hl => ?_)
          refine lv_aload_n hx hb dX6_isBrought_51 rfl (lv_at hl 5 rfl) ?_
          refine va_get (D := D) (ci := 6) (v := .ref n) (C := RX6) (T := TX6) (N := 4) hx hb hts inlX6 hown hK hP 0 rfl rfl 0 (by decide) (hts (Cond.fieldLink RX6 19 "ChanceRings$Solver" "net" "LChanceRings$Net;") qw_548) (fun _ h9 => h9) rfl dX6_isBrought_52 ?_
          refine va_get (D := D) (ci := 2) (v := .ref n_kind) (C := RX2) (T := TX2) (N := 8) hx hb hts inlX2 hown hK hP 1 rfl rfl 1 (by decide) (hts (Cond.fieldLink RX6 61 "ChanceRings$Net" "kind" "[I") qw_551) (fun _ h9 => h9) rfl dX6_isBrought_55 ?_
          refine lv_iload_n hx hb dX6_isBrought_58 rfl (lv_at hl 6 rfl) ?_
          refine va_iald hx hb hK hP 2 0 rfl rfl (tr_in h_p0 (by decide) (by decide)) dX6_isBrought_59 ?_
          refine lv_topi (fun v_87605 v_87605_e => ?_)
          have h_v_87605 : 0 ≤ (v_87605 : Int32).toInt ∧ (v_87605 : Int32).toInt ≤ 3 := by rw [v_87605_e]; exact h_n_fkind _
          refine lv_iconst (v := 3) hx hb dX6_isBrought_60 (by decide) ?_
          refine lv_icmp_ne (tgt := 99) hx hb dX6_isBrought_61 (by decide) (fun c_87606 => ?_) (fun c_87606 => ?_)
          · skip
            have c_87606_i : ¬ (v_87605 : Int32).toInt = (3 : Int32).toInt := (fun q => c_87606 (Int32.toInt_inj.mp q))
            have h_87607 : 0 ≤ (v_87605 : Int32).toInt ∧ (v_87605 : Int32).toInt ≤ 2 := nr_ne_l h_v_87605 (⟨by decide, by decide⟩ : 3 ≤ (3 : Int32).toInt ∧ (3 : Int32).toInt ≤ 3) c_87606_i (by decide) (by decide)
            refine lv_aload_n hx hb dX6_isBrought_99 rfl (lv_at hl 5 rfl) ?_
            refine va_get (D := D) (ci := 6) (v := .ref sv_keep) (C := RX6) (T := TX6) (N := 4) hx hb hts inlX6 hown hK hP 0 rfl rfl 2 (by decide) (hts (Cond.fieldLink RX6 9 "ChanceRings$Solver" "keep" "[I") qw_587) (fun _ h9 => h9) rfl dX6_isBrought_100 ?_
            refine lv_iload_n hx hb dX6_isBrought_103 rfl (lv_at hl 6 rfl) ?_
            refine va_iald hx hb hK hP 9 0 rfl rfl (tr_in h_p0 (by decide) (by decide)) dX6_isBrought_104 ?_
            refine lv_topi (fun v_87609 v_87609_e => ?_)
            refine lv_iload hx hb dX6_isBrought_105 (lv_at hl 2 rfl) ?_
            refine lv_ishr hx hb dX6_isBrought_107 ?_
            refine lv_topi (fun v_87610 v_87610_e => ?_)
            refine lv_iconst (v := 1) hx hb dX6_isBrought_108 (by decide) ?_
            refine lv_iand hx hb dX6_isBrought_109 ?_
            refine lv_topi (fun v_87611 v_87611_e => ?_)
            refine lv_if_eq (tgt := 127) hx hb dX6_isBrought_110 (by decide) (fun c_87612 => ?_) (fun c_87612 => ?_)
            · skip
              have h_87613 : 0 ≤ (v_87611 : Int32).toInt ∧ (v_87611 : Int32).toInt ≤ 0 := by rw [c_87612]; exact ⟨by decide, by decide⟩
              obtain ⟨v_87614, v_87614_e⟩ : ∃ y : Int32, y = x_87560 + Int32.ofInt 1 := ⟨_, rfl⟩
              have h_v_87614 : 1 ≤ (v_87614 : Int32).toInt ∧ (v_87614 : Int32).toInt ≤ 3 := by rw [v_87614_e]; exact tr_add h_87566 (⟨by decide, by decide⟩ : 1 ≤ (Int32.ofInt 1 : Int32).toInt ∧ (Int32.ofInt 1 : Int32).toInt ≤ 1) (by decide) (by decide) (by decide) (by decide)
              have q_v_87614 : v_87614.toInt = x_87560.toInt + 1 := by rw [v_87614_e]; exact tr_addE h_87566 (⟨by decide, by decide⟩ : 1 ≤ (Int32.ofInt 1 : Int32).toInt ∧ (Int32.ofInt 1 : Int32).toInt ≤ 1) (by decide) (by decide)
              refine lv_iinc (v := v_87614) (lv' := [(6, .int v_87614), (8, .int 1), (7, .int r_87577), (5, .int x_87561), (4, .int x_87562), (0, .ref sv), (1, .int p0), (2, .int p1), (3, .ref vs)]) hx hb dX6_isBrought_127 hl (k := 2) rfl v_87614_e.symm (by decide) rfl (fun ls hl => ?_)
              refine lv_goto (tgt := 9) hx hb dX6_isBrought_130 (by decide) ?_
              exact ih_87563 v_87614 x_87561 x_87562 ls (tr_w h_v_87614 (by decide) (by decide)) (tr_w h_x_87561 (by decide) (by decide)) (tr_w h_x_87562 (by decide) (by decide)) (by (first | (clear h_p0 h_n_nodes hw_87578 h_v_87605 c_87606_i h_87607 h_87613; omega) | omega)) (lv_sub hl [0, 3, 4, 5, 6, 7, 8] rfl)
            · skip
              refine lv_iload hx hb dX6_isBrought_113 (lv_at hl 4 rfl) ?_
              refine lv_iload hx hb dX6_isBrought_115 (lv_at hl 0 rfl) ?_
              refine lv_ior hx hb dX6_isBrought_117 ?_
              refine lv_topi (fun v_87615 v_87615_e => ?_)
              have h_v_87615 : 0 ≤ (v_87615 : Int32).toInt ∧ (v_87615 : Int32).toInt ≤ 1 := by rw [v_87615_e]; exact tr_or01 (tr_w h_x_87562 (by decide) (by decide)) (⟨by decide, by decide⟩ : 0 ≤ (1 : Int32).toInt ∧ (1 : Int32).toInt ≤ 1)
              refine lv_istore (lv' := [(4, .int v_87615), (8, .int 1), (7, .int r_87577), (6, .int x_87560), (5, .int x_87561), (0, .ref sv), (1, .int p0), (2, .int p1), (3, .ref vs)]) hx hb dX6_isBrought_118 hl (by decide) rfl (fun ls hl => ?_)
              refine lv_iload hx hb dX6_isBrought_120 (lv_at hl 4 rfl) ?_
              refine lv_iload hx hb dX6_isBrought_122 (lv_at hl 1 rfl) ?_
              refine lv_iand hx hb dX6_isBrought_124 ?_
              refine lv_topi (fun v_87616 v_87616_e => ?_)
              have h_v_87616 : 0 ≤ (v_87616 : Int32).toInt ∧ (v_87616 : Int32).toInt ≤ 1 := by rw [v_87616_e]; exact tr_and01 (tr_w h_x_87561 (by decide) (by decide)) (⟨by decide, by decide⟩ : 0 ≤ (1 : Int32).toInt ∧ (1 : Int32).toInt ≤ 1)
              refine lv_istore (lv' := [(5, .int v_87616), (4, .int v_87615), (8, .int 1), (7, .int r_87577), (6, .int x_87560), (0, .ref sv), (1, .int p0), (2, .int p1), (3, .ref vs)]) hx hb dX6_isBrought_125 hl (by decide) rfl (fun ls hl => ?_)
              obtain ⟨v_87617, v_87617_e⟩ : ∃ y : Int32, y = x_87560 + Int32.ofInt 1 := ⟨_, rfl⟩
              have h_v_87617 : 1 ≤ (v_87617 : Int32).toInt ∧ (v_87617 : Int32).toInt ≤ 3 := by rw [v_87617_e]; exact tr_add h_87566 (⟨by decide, by decide⟩ : 1 ≤ (Int32.ofInt 1 : Int32).toInt ∧ (Int32.ofInt 1 : Int32).toInt ≤ 1) (by decide) (by decide) (by decide) (by decide)
              have q_v_87617 : v_87617.toInt = x_87560.toInt + 1 := by rw [v_87617_e]; exact tr_addE h_87566 (⟨by decide, by decide⟩ : 1 ≤ (Int32.ofInt 1 : Int32).toInt ∧ (Int32.ofInt 1 : Int32).toInt ≤ 1) (by decide) (by decide)
              refine lv_iinc (v := v_87617) (lv' := [(6, .int v_87617), (5, .int v_87616), (4, .int v_87615), (8, .int 1), (7, .int r_87577), (0, .ref sv), (1, .int p0), (2, .int p1), (3, .ref vs)]) hx hb dX6_isBrought_127 hl (k := 4) rfl v_87617_e.symm (by decide) rfl (fun ls hl => ?_)
              refine lv_goto (tgt := 9) hx hb dX6_isBrought_130 (by decide) ?_
              exact ih_87563 v_87617 v_87616 v_87615 ls (tr_w h_v_87617 (by decide) (by decide)) (tr_w h_v_87616 (by decide) (by decide)) (tr_w h_v_87615 (by decide) (by decide)) (by (first | (clear h_p0 h_n_nodes h_x_87561 h_x_87562 hw_87578 h_v_87605 c_87606_i h_87607; omega) | omega)) (lv_sub hl [0, 1, 2, 5, 6, 7, 8] rfl)
          · skip
            have c_87606_i : (v_87605 : Int32).toInt = (3 : Int32).toInt := congrArg Int32.toInt c_87606
            have h_87608 : 3 ≤ (v_87605 : Int32).toInt ∧ (v_87605 : Int32).toInt ≤ 3 := nr_eq_l h_v_87605 (⟨by decide, by decide⟩ : 3 ≤ (3 : Int32).toInt ∧ (3 : Int32).toInt ≤ 3) c_87606_i (by decide) (by decide)
            refine lv_iload hx hb dX6_isBrought_64 (lv_at hl 4 rfl) ?_
            refine lv_iload hx hb dX6_isBrought_66 (lv_at hl 0 rfl) ?_
            refine lv_if_ne (tgt := 88) hx hb dX6_isBrought_68 (by decide) (fun _ => ?_) (fun h9 => absurd h9 (by decide))
            refine lv_iconst (v := 1) hx hb dX6_isBrought_88 (by decide) ?_
            refine lv_goto (tgt := 93) hx hb dX6_isBrought_89 (by decide) ?_
            refine lv_ior hx hb dX6_isBrought_93 ?_
            refine lv_topi (fun v_87618 v_87618_e => ?_)
            have h_v_87618 : 0 ≤ (v_87618 : Int32).toInt ∧ (v_87618 : Int32).toInt ≤ 1 := by rw [v_87618_e]; exact tr_or01 (tr_w h_x_87562 (by decide) (by decide)) (⟨by decide, by decide⟩ : 0 ≤ (1 : Int32).toInt ∧ (1 : Int32).toInt ≤ 1)
            refine lv_istore (lv' := [(4, .int v_87618), (8, .int 1), (7, .int r_87577), (6, .int x_87560), (5, .int x_87561), (0, .ref sv), (1, .int p0), (2, .int p1), (3, .ref vs)]) hx hb dX6_isBrought_94 hl (by decide) rfl (fun ls hl => ?_)
            refine lv_goto (tgt := 127) hx hb dX6_isBrought_96 (by decide) ?_
            obtain ⟨v_87619, v_87619_e⟩ : ∃ y : Int32, y = x_87560 + Int32.ofInt 1 := ⟨_, rfl⟩
            have h_v_87619 : 1 ≤ (v_87619 : Int32).toInt ∧ (v_87619 : Int32).toInt ≤ 3 := by rw [v_87619_e]; exact tr_add h_87566 (⟨by decide, by decide⟩ : 1 ≤ (Int32.ofInt 1 : Int32).toInt ∧ (Int32.ofInt 1 : Int32).toInt ≤ 1) (by decide) (by decide) (by decide) (by decide)
            have q_v_87619 : v_87619.toInt = x_87560.toInt + 1 := by rw [v_87619_e]; exact tr_addE h_87566 (⟨by decide, by decide⟩ : 1 ≤ (Int32.ofInt 1 : Int32).toInt ∧ (Int32.ofInt 1 : Int32).toInt ≤ 1) (by decide) (by decide)
            refine lv_iinc (v := v_87619) (lv' := [(6, .int v_87619), (4, .int v_87618), (8, .int 1), (7, .int r_87577), (5, .int x_87561), (0, .ref sv), (1, .int p0), (2, .int p1), (3, .ref vs)]) hx hb dX6_isBrought_127 hl (k := 3) rfl v_87619_e.symm (by decide) rfl (fun ls hl => ?_)
            refine lv_goto (tgt := 9) hx hb dX6_isBrought_130 (by decide) ?_
            exact ih_87563 v_87619 x_87561 v_87618 ls (tr_w h_v_87619 (by decide) (by decide)) (tr_w h_x_87561 (by decide) (by decide)) (tr_w h_v_87618 (by decide) (by decide)) (by (first | (clear h_p0 h_n_nodes h_x_87562 hw_87578 h_v_87605 c_87606_i h_87608; omega) | omega)) (lv_sub hl [0, 4, 1, 5, 6, 7, 8] rfl)
  exact lp_87563 4 0 1 0 ls (⟨by decide, by decide⟩ : 0 ≤ (0 : Int32).toInt ∧ (0 : Int32).toInt ≤ 3) (⟨by decide, by decide⟩ : 0 ≤ (1 : Int32).toInt ∧ (1 : Int32).toInt ≤ 1) (⟨by decide, by decide⟩ : 0 ≤ (0 : Int32).toInt ∧ (0 : Int32).toInt ≤ 1) (by decide) (lv_sub hl [0, 1, 2, 3, 4, 5, 6] rfl)
set_option maxHeartbeats 4000000 in
set_option maxRecDepth 100000 in
theorem c_X6_bringsAll (l : Launch) (D : va_G) (g : Nat → ClassId) (sv : Nat) (vs : Nat) (n : Nat) (co : Nat) (sv_keep : Nat) (sv_scaled : Nat) (n_nodes : Int32) (n_kind : Nat) (n_pay : Nat) (n_name : Nat) (n_ways : Nat) (n_held : Nat) (n_targets : Nat) (n_weights : Nat) (n_fkind : Nat → Int32) (n_fpay : Nat → Int32) (n_fways : Nat → Int32) (n_fheld : Nat → Int32) (n_ftargets : Nat → Int32) (vs_part : Nat) (vsw : Int64) (vsp : Nat → Int64) (kpf : Nat → Int32) (h_n_nodes : 0 ≤ (n_nodes : Int32).toInt ∧ (n_nodes : Int32).toInt ≤ 12) (h_n_fkind : ∀ j : Nat, 0 ≤ (n_fkind j).toInt ∧ (n_fkind j).toInt ≤ 3) (h_n_fways : ∀ j : Nat, 0 ≤ (n_fways j).toInt ∧ (n_fways j).toInt ≤ 3) (h_n_fheld : ∀ j : Nat, (-1) ≤ (n_fheld j).toInt ∧ (n_fheld j).toInt ≤ 2) (h_n_ftargets : ∀ j : Nat, 0 ≤ (n_ftargets j).toInt ∧ (n_ftargets j).toInt ≤ 11) : Met l yX6_bringsAll (.code yX6_bringsAll cX6_bringsAll 6 (some .boolean) :: wsL_law) ({ frames := 2, cells := 0, slots := 0, locals := 50 }) (va_Pc [.ref sv, .ref vs] (fun U => va_P D vwCl [(sv, .inr (6, [.ref n, .ref co, .ref sv_keep, .ref sv_scaled])), (n, .inr (2, [.int n_nodes, .ref n_kind, .ref n_pay, .ref n_name, .ref n_ways, .ref n_held, .ref n_targets, .ref n_weights])), (n_kind, .inl (g 0, 12, .inl n_fkind)), (n_pay, .inl (g 0, 12, .inl n_fpay)), (n_ways, .inl (g 0, 12, .inl n_fways)), (n_held, .inl (g 0, 12, .inl n_fheld)), (n_targets, .inl (g 0, 36, .inl n_ftargets)), (vs, .inr (10, [.ref vs_part, .long vsw])), (vs_part, .inl (g 1, 12, .inr (.inl vsp))), (sv_keep, .inl (g 0, 12, .inl kpf))] U.heap ∧ va_K D vwCl (TY g) U)) (vp_Si (fun r => 0 ≤ (r : Int32).toInt ∧ (r : Int32).toInt ≤ 1)) 0 0 (fun _ => False) := by
  refine Met.ofW (cc := cX6_bringsAll) (maxL := 6) (ret := (some .boolean)) (by decide) rfl ?_
  intro p e s m args below meth c s₁ B hml hv
  obtain ⟨ha, hP, hK⟩ := hv
  have hx := B.exec
  have hb := B.bytes
  have hr := B.returns
  have hts0 := atoms_spec (ws := (.code yX6_bringsAll cX6_bringsAll 6 (some .boolean) :: wsL_law)) B.pre
  have hts : ∀ w ∈ wsL_law, w.before args s = true := fun w h => hts0 w (List.mem_cons_of_mem _ h)
  have hown : s.vm.findClass RX6 = some m.cls := findClass_of_methodNamed B.named
  have hlocks := B.notSynchronized
  have hP : va_P D vwCl [(sv, .inr (6, [.ref n, .ref co, .ref sv_keep, .ref sv_scaled])), (n, .inr (2, [.int n_nodes, .ref n_kind, .ref n_pay, .ref n_name, .ref n_ways, .ref n_held, .ref n_targets, .ref n_weights])), (n_kind, .inl (g 0, 12, .inl n_fkind)), (n_pay, .inl (g 0, 12, .inl n_fpay)), (n_ways, .inl (g 0, 12, .inl n_fways)), (n_held, .inl (g 0, 12, .inl n_fheld)), (n_targets, .inl (g 0, 36, .inl n_ftargets)), (vs, .inr (10, [.ref vs_part, .long vsw])), (vs_part, .inl (g 1, 12, .inr (.inl vsp))), (sv_keep, .inl (g 0, 12, .inl kpf))] s.heap := hP
  refine W.eq (g2 := entryFrame m ([.ref sv, .ref vs] : List Value).toArray 6) (by rw [ha]) ?_
  have hl := lv_entry ([.ref sv, .ref vs]) (n := 6) (Nat.le_of_ble_eq_true rfl)
  rw [lg_entry_eq]
  generalize (lg_sl ([.ref sv, .ref vs]) ++ List.replicate (6 - (lg_sl ([.ref sv, .ref vs])).length) Slot.unset).toArray = ls at hl ⊢
  have hl : lv_has ls 6 [(0, .ref sv), (1, .ref vs)] := hl
  refine lv_aload_n hx hb dX6_bringsAll_0 rfl (lv_at hl 0 rfl) ?_
  refine va_get (D := D) (ci := 6) (v := .ref n) (C := RX6) (T := TX6) (N := 4) hx hb hts inlX6 hown hK hP 0 rfl rfl 0 (by decide) (hts (Cond.fieldLink RX6 19 "ChanceRings$Solver" "net" "LChanceRings$Net;") qw_548) (fun _ h9 => h9) rfl dX6_bringsAll_1 ?_
  have hPc := hP.sub (ws' := [(n, .inr (2, [.int n_nodes, .ref n_kind, .ref n_pay, .ref n_name, .ref n_ways, .ref n_held, .ref n_targets, .ref n_weights])), (n_kind, .inl (g 0, 12, .inl n_fkind)), (n_pay, .inl (g 0, 12, .inl n_fpay))]) [1, 2, 3] rfl
  refine vp_callSi (va_Run.run (va_runV (As := []) (rest := []) ⟨hx, hb, hml, hown, hts⟩ (c_X2_payingEnds l D g n n_nodes n_kind n_pay n_name n_ways n_held n_targets n_weights n_fkind n_fpay (tr_w h_n_nodes (by decide) (by decide)) (tr_wa h_n_fkind (by decide) (by decide))) (cwV 0 hts (tz_gV qw_564 qw_505 qw_506 qw_322 qw_507) rfl rfl rfl (by decide +kernel) ⟨Nat.le_of_ble_eq_true rfl, Nat.le_of_ble_eq_true rfl⟩) ⟨tz_blS, va_recv hK hPc (ci := 2) (q0 := 0) rfl rfl, tz_preS hPc hK⟩ rfl rfl hl.1 rfl (lv_room (Nat.le_of_ble_eq_true rfl)) dX6_bringsAll_4 ⟨Nat.le_of_ble_eq_true rfl, Nat.le_of_ble_eq_true rfl⟩)) (fun r_87620 hw => ?_)
  refine lv_istore_n (lv' := [(2, .int r_87620), (0, .ref sv), (1, .ref vs)]) hx hb dX6_bringsAll_7 rfl hl (by decide) rfl (fun ls hl => ?_)
  refine lv_iconst (v := (-1)) hx hb dX6_bringsAll_8 (by decide) ?_
  refine lv_istore_n (lv' := [(3, .int (-1)), (2, .int r_87620), (0, .ref sv), (1, .ref vs)]) hx hb dX6_bringsAll_9 rfl hl (by decide) rfl (fun ls hl => ?_)
  refine lv_iconst (v := 0) hx hb dX6_bringsAll_10 (by decide) ?_
  refine lv_istore (lv' := [(4, .int 0), (3, .int (-1)), (2, .int r_87620), (0, .ref sv), (1, .ref vs)]) hx hb dX6_bringsAll_11 hl (by decide) rfl (fun ls hl => ?_)
  have lp_90306 : ∀ (n_90306 : Nat) (x_90303 : Int32) (x_90304 : Int32) (x_90305 : Int32) (ls : Array Slot), (0 ≤ (x_90303 : Int32).toInt ∧ (x_90303 : Int32).toInt ≤ 12) → (12 - x_90303.toInt < (n_90306 : Int)) → lv_has ls 6 [(4, .int x_90303), (3, .int x_90304), (2, .int x_90305), (0, .ref sv), (1, .ref vs)] → W p l e (headSpec (.code yX6_bringsAll cX6_bringsAll 6 (some .boolean) :: wsL_law) ({ frames := 2, cells := 0, slots := 0, locals := 50 })).room s m args below meth c s.heap [] 0 0 (MQ below (vp_Si (fun r => 0 ≤ (r : Int32).toInt ∧ (r : Int32).toInt ≤ 1)) args s 0 0 (fun _ => False)) (F0 m 13 ls []) := by
    intro n_90306
    induction n_90306 with
    | zero =>
      intro x_90303 x_90304 x_90305 ls h_x_90303 hm_90306 hl
      exfalso; omega
    | succ n_90306 ih_90306 =>
      intro x_90303 x_90304 x_90305 ls h_x_90303 hm_90306 hl
      refine lv_iload hx hb dX6_bringsAll_13 (lv_at hl 0 rfl) ?_
      refine lv_bipush (v := 12) hx hb dX6_bringsAll_15 (by decide) ?_
      refine lv_icmp_ge (tgt := 84) hx hb dX6_bringsAll_17 (by decide) (fun c_90307 => ?_) (fun c_90307 => ?_)
      · skip
        have c_90307_i := Int32.le_iff_toInt_le.mp c_90307
        have h_90308 : 12 ≤ (x_90303 : Int32).toInt ∧ (x_90303 : Int32).toInt ≤ 12 := nr_le_r (⟨by decide, by decide⟩ : 12 ≤ (12 : Int32).toInt ∧ (12 : Int32).toInt ≤ 12) h_x_90303 c_90307_i (by decide) (by decide)
        refine lv_iconst (v := 0) hx hb dX6_bringsAll_84 (by decide) ?_
        refine lv_istore (lv' := [(4, .int 0), (3, .int x_90304), (2, .int x_90305), (0, .ref sv), (1, .ref vs)]) hx hb dX6_bringsAll_85 hl (by decide) rfl (fun ls hl => ?_)
        have lp_90428 : ∀ (n_90428 : Nat) (x_90427 : Int32) (ls : Array Slot), (0 ≤ (x_90427 : Int32).toInt ∧ (x_90427 : Int32).toInt ≤ 12) → (12 - x_90427.toInt < (n_90428 : Int)) → lv_has ls 6 [(4, .int x_90427), (3, .int x_90304), (2, .int x_90305), (0, .ref sv), (1, .ref vs)] → W p l e (headSpec (.code yX6_bringsAll cX6_bringsAll 6 (some .boolean) :: wsL_law) ({ frames := 2, cells := 0, slots := 0, locals := 50 })).room s m args below meth c s.heap [] 0 0 (MQ below (vp_Si (fun r => 0 ≤ (r : Int32).toInt ∧ (r : Int32).toInt ≤ 1)) args s 0 0 (fun _ => False)) (F0 m 87 ls []) := by
          intro n_90428
          induction n_90428 with
          | zero =>
            intro x_90427 ls h_x_90427 hm_90428 hl
            exfalso; omega
          | succ n_90428 ih_90428 =>
            intro x_90427 ls h_x_90427 hm_90428 hl
            refine lv_iload hx hb dX6_bringsAll_87 (lv_at hl 0 rfl) ?_
            refine lv_aload_n hx hb dX6_bringsAll_89 rfl (lv_at hl 3 rfl) ?_
            refine va_get (D := D) (ci := 6) (v := .ref n) (C := RX6) (T := TX6) (N := 4) hx hb hts inlX6 hown hK hP 0 rfl rfl 0 (by decide) (hts (Cond.fieldLink RX6 19 "ChanceRings$Solver" "net" "LChanceRings$Net;") qw_548) (fun _ h9 => h9) rfl dX6_bringsAll_90 ?_
            refine va_get (D := D) (ci := 2) (v := .int n_nodes) (C := RX2) (T := TX2) (N := 8) hx hb hts inlX2 hown hK hP 1 rfl rfl 0 (by decide) (hts (Cond.fieldLink RX6 32 "ChanceRings$Net" "nodes" "I") qw_549) (fun _ h9 => h9) rfl dX6_bringsAll_93 ?_
            refine lv_icmp_ge (tgt := 128) hx hb dX6_bringsAll_96 (by decide) (fun c_90429 => ?_) (fun c_90429 => ?_)
            · skip
              refine lv_iconst (v := 1) hx hb dX6_bringsAll_128 (by decide) ?_
              exact W.zret (v := 1) hx hb hr (by decide) (fun t ht hW => ⟨1, rfl, (⟨by decide, by decide⟩ : 0 ≤ (1 : Int32).toInt ∧ (1 : Int32).toInt ≤ 1), ht⟩) (fun _ h => nomatch h) dX6_bringsAll_129
            · skip
              have c_90429_i := Int32.lt_iff_toInt_lt.mp (Int32.not_le.mp c_90429)
              have h_90430 : 0 ≤ (x_90427 : Int32).toInt ∧ (x_90427 : Int32).toInt ≤ 11 := nr_lt_l h_x_90427 h_n_nodes c_90429_i (by decide) (by decide)
              have h_90431 : 1 ≤ (n_nodes : Int32).toInt ∧ (n_nodes : Int32).toInt ≤ 12 := nr_lt_r h_x_90427 h_n_nodes c_90429_i (by decide) (by decide)
              refine lv_aload_n hx hb dX6_bringsAll_99 rfl (lv_at hl 4 rfl) ?_
              refine va_get (D := D) (ci := 10) (v := .ref vs_part) (C := RX10) (T := TX10) (N := 2) hx hb hts inlX10 hown hK hP 7 rfl rfl 0 (by decide) (hts (Cond.fieldLink RX6 71 "ChanceRings$Values" "part" "[J") qw_553) (fun _ h9 => h9) rfl dX6_bringsAll_100 ?_
              refine lv_iload hx hb dX6_bringsAll_103 (lv_at hl 0 rfl) ?_
              refine va_lald hx hb hK hP 8 1 rfl rfl (tr_in h_90430 (by decide) (by decide)) dX6_bringsAll_105 ?_
              refine lv_topl (fun w_90432 _ => ?_)
              refine lv_lconst (v := 0) hx hb dX6_bringsAll_106 (by decide) ?_
              refine W.lcmp hx hb dX6_bringsAll_107 ?_
              refine lv_topi (fun v_90433 v_90433_e => ?_)
              have h_v_90433 : (-1) ≤ (v_90433 : Int32).toInt ∧ (v_90433 : Int32).toInt ≤ 1 := by rw [v_90433_e]; exact tr_cmp _ _
              refine lv_if_le (tgt := 122) hx hb dX6_bringsAll_108 (by decide) (fun c_90434 => ?_) (fun c_90434 => ?_)
              · skip
                have c_90434_i := Int32.le_iff_toInt_le.mp c_90434
                have h_90435 : (-1) ≤ (v_90433 : Int32).toInt ∧ (v_90433 : Int32).toInt ≤ 0 := nr_le_l h_v_90433 (⟨by decide, by decide⟩ : 0 ≤ (0 : Int32).toInt ∧ (0 : Int32).toInt ≤ 0) c_90434_i (by decide) (by decide)
                obtain ⟨v_90437, v_90437_e⟩ : ∃ y : Int32, y = x_90427 + Int32.ofInt 1 := ⟨_, rfl⟩
                have h_v_90437 : 1 ≤ (v_90437 : Int32).toInt ∧ (v_90437 : Int32).toInt ≤ 12 := by rw [v_90437_e]; exact tr_add h_90430 (⟨by decide, by decide⟩ : 1 ≤ (Int32.ofInt 1 : Int32).toInt ∧ (Int32.ofInt 1 : Int32).toInt ≤ 1) (by decide) (by decide) (by decide) (by decide)
                have q_v_90437 : v_90437.toInt = x_90427.toInt + 1 := by rw [v_90437_e]; exact tr_addE h_90430 (⟨by decide, by decide⟩ : 1 ≤ (Int32.ofInt 1 : Int32).toInt ∧ (Int32.ofInt 1 : Int32).toInt ≤ 1) (by decide) (by decide)
                refine lv_iinc (v := v_90437) (lv' := [(4, .int v_90437), (3, .int x_90304), (2, .int x_90305), (0, .ref sv), (1, .ref vs)]) hx hb dX6_bringsAll_122 hl (k := 0) rfl v_90437_e.symm (by decide) rfl (fun ls hl => ?_)
                refine lv_goto (tgt := 87) hx hb dX6_bringsAll_125 (by decide) ?_
                exact ih_90428 v_90437 ls (tr_w h_v_90437 (by decide) (by decide)) (by (first | (clear h_x_90303 c_90307_i h_90308 h_v_90433 c_90434_i h_90435; omega) | omega)) (lv_sub hl [0, 1, 2, 3, 4] rfl)
              · skip
                have c_90434_i := Int32.lt_iff_toInt_lt.mp (Int32.not_le.mp c_90434)
                have h_90436 : 1 ≤ (v_90433 : Int32).toInt ∧ (v_90433 : Int32).toInt ≤ 1 := nr_lt_r (⟨by decide, by decide⟩ : 0 ≤ (0 : Int32).toInt ∧ (0 : Int32).toInt ≤ 0) h_v_90433 c_90434_i (by decide) (by decide)
                refine lv_iload_n hx hb dX6_bringsAll_111 rfl (lv_at hl 2 rfl) ?_
                refine lv_iload hx hb dX6_bringsAll_112 (lv_at hl 0 rfl) ?_
                refine lv_ishr hx hb dX6_bringsAll_114 ?_
                refine lv_topi (fun v_90438 v_90438_e => ?_)
                refine lv_iconst (v := 1) hx hb dX6_bringsAll_115 (by decide) ?_
                refine lv_iand hx hb dX6_bringsAll_116 ?_
                refine lv_topi (fun v_90439 v_90439_e => ?_)
                refine lv_if_ne (tgt := 122) hx hb dX6_bringsAll_117 (by decide) (fun c_90440 => ?_) (fun c_90440 => ?_)
                · skip
                  obtain ⟨v_90442, v_90442_e⟩ : ∃ y : Int32, y = x_90427 + Int32.ofInt 1 := ⟨_, rfl⟩
                  have h_v_90442 : 1 ≤ (v_90442 : Int32).toInt ∧ (v_90442 : Int32).toInt ≤ 12 := by rw [v_90442_e]; exact tr_add h_90430 (⟨by decide, by decide⟩ : 1 ≤ (Int32.ofInt 1 : Int32).toInt ∧ (Int32.ofInt 1 : Int32).toInt ≤ 1) (by decide) (by decide) (by decide) (by decide)
                  have q_v_90442 : v_90442.toInt = x_90427.toInt + 1 := by rw [v_90442_e]; exact tr_addE h_90430 (⟨by decide, by decide⟩ : 1 ≤ (Int32.ofInt 1 : Int32).toInt ∧ (Int32.ofInt 1 : Int32).toInt ≤ 1) (by decide) (by decide)
                  refine lv_iinc (v := v_90442) (lv' := [(4, .int v_90442), (3, .int x_90304), (2, .int x_90305), (0, .ref sv), (1, .ref vs)]) hx hb dX6_bringsAll_122 hl (k := 0) rfl v_90442_e.symm (by decide) rfl (fun ls hl => ?_)
                  refine lv_goto (tgt := 87) hx hb dX6_bringsAll_125 (by decide) ?_
                  exact ih_90428 v_90442 ls (tr_w h_v_90442 (by decide) (by decide)) (by (first | (clear h_x_90303 c_90307_i h_90308 h_v_90433 c_90434_i h_90436; omega) | omega)) (lv_sub hl [0, 1, 2, 3, 4] rfl)
                · skip
                  have h_90441 : 0 ≤ (v_90439 : Int32).toInt ∧ (v_90439 : Int32).toInt ≤ 0 := by rw [c_90440]; exact ⟨by decide, by decide⟩
                  refine lv_iconst (v := 0) hx hb dX6_bringsAll_120 (by decide) ?_
                  exact W.zret (v := 0) hx hb hr (by decide) (fun t ht hW => ⟨0, rfl, (⟨by decide, by decide⟩ : 0 ≤ (0 : Int32).toInt ∧ (0 : Int32).toInt ≤ 1), ht⟩) (fun _ h => nomatch h) dX6_bringsAll_121
        exact lp_90428 13 0 ls (⟨by decide, by decide⟩ : 0 ≤ (0 : Int32).toInt ∧ (0 : Int32).toInt ≤ 12) (by decide) (lv_sub hl [0, 1, 2, 3, 4] rfl)
      · skip
        have c_90307_i := Int32.lt_iff_toInt_lt.mp (Int32.not_le.mp c_90307)
        have h_90309 : 0 ≤ (x_90303 : Int32).toInt ∧ (x_90303 : Int32).toInt ≤ 11 := nr_lt_l h_x_90303 (⟨by decide, by decide⟩ : 12 ≤ (12 : Int32).toInt ∧ (12 : Int32).toInt ≤ 12) c_90307_i (by decide) (by decide)
        refine lv_iload_n hx hb dX6_bringsAll_20 rfl (lv_at hl 2 rfl) ?_
        refine lv_iload_n hx hb dX6_bringsAll_21 rfl (lv_at hl 1 rfl) ?_
        refine lv_icmp_eq (tgt := 84) hx hb dX6_bringsAll_22 (by decide) (fun c_90443 => ?_) (fun c_90443 => ?_)
        · skip
          refine lv_iconst (v := 0) hx hb dX6_bringsAll_84 (by decide) ?_
          refine lv_istore (lv' := [(4, .int 0), (3, .int x_90304), (2, .int x_90305), (0, .ref sv), (1, .ref vs)]) hx hb dX6_bringsAll_85 hl (by decide) rfl (fun ls hl => ?_)
          have lp_90562 : ∀ (n_90562 : Nat) (x_90561 : Int32) (ls : Array Slot), (0 ≤ (x_90561 : Int32).toInt ∧ (x_90561 : Int32).toInt ≤ 12) → (12 - x_90561.toInt < (n_90562 : Int)) → lv_has ls 6 [(4, .int x_90561), (3, .int x_90304), (2, .int x_90305), (0, .ref sv), (1, .ref vs)] → W p l e (headSpec (.code yX6_bringsAll cX6_bringsAll 6 (some .boolean) :: wsL_law) ({ frames := 2, cells := 0, slots := 0, locals := 50 })).room s m args below meth c s.heap [] 0 0 (MQ below (vp_Si (fun r => 0 ≤ (r : Int32).toInt ∧ (r : Int32).toInt ≤ 1)) args s 0 0 (fun _ => False)) (F0 m 87 ls []) := by
            intro n_90562
            induction n_90562 with
            | zero =>
              intro x_90561 ls h_x_90561 hm_90562 hl
              exfalso; omega
            | succ n_90562 ih_90562 =>
              intro x_90561 ls h_x_90561 hm_90562 hl
              refine lv_iload hx hb dX6_bringsAll_87 (lv_at hl 0 rfl) ?_
              refine lv_aload_n hx hb dX6_bringsAll_89 rfl (lv_at hl 3 rfl) ?_
              refine va_get (D := D) (ci := 6) (v := .ref n) (C := RX6) (T := TX6) (N := 4) hx hb hts inlX6 hown hK hP 0 rfl rfl 0 (by decide) (hts (Cond.fieldLink RX6 19 "ChanceRings$Solver" "net" "LChanceRings$Net;") qw_548) (fun _ h9 => h9) rfl dX6_bringsAll_90 ?_
              refine va_get (D := D) (ci := 2) (v := .int n_nodes) (C := RX2) (T := TX2) (N := 8) hx hb hts inlX2 hown hK hP 1 rfl rfl 0 (by decide) (hts (Cond.fieldLink RX6 32 "ChanceRings$Net" "nodes" "I") qw_549) (fun _ h9 => h9) rfl dX6_bringsAll_93 ?_
              refine lv_icmp_ge (tgt := 128) hx hb dX6_bringsAll_96 (by decide) (fun c_90563 => ?_) (fun c_90563 => ?_)
              · skip
                refine lv_iconst (v := 1) hx hb dX6_bringsAll_128 (by decide) ?_
                exact W.zret (v := 1) hx hb hr (by decide) (fun t ht hW => ⟨1, rfl, (⟨by decide, by decide⟩ : 0 ≤ (1 : Int32).toInt ∧ (1 : Int32).toInt ≤ 1), ht⟩) (fun _ h => nomatch h) dX6_bringsAll_129
              · skip
                have c_90563_i := Int32.lt_iff_toInt_lt.mp (Int32.not_le.mp c_90563)
                have h_90564 : 0 ≤ (x_90561 : Int32).toInt ∧ (x_90561 : Int32).toInt ≤ 11 := nr_lt_l h_x_90561 h_n_nodes c_90563_i (by decide) (by decide)
                have h_90565 : 1 ≤ (n_nodes : Int32).toInt ∧ (n_nodes : Int32).toInt ≤ 12 := nr_lt_r h_x_90561 h_n_nodes c_90563_i (by decide) (by decide)
                refine lv_aload_n hx hb dX6_bringsAll_99 rfl (lv_at hl 4 rfl) ?_
                refine va_get (D := D) (ci := 10) (v := .ref vs_part) (C := RX10) (T := TX10) (N := 2) hx hb hts inlX10 hown hK hP 7 rfl rfl 0 (by decide) (hts (Cond.fieldLink RX6 71 "ChanceRings$Values" "part" "[J") qw_553) (fun _ h9 => h9) rfl dX6_bringsAll_100 ?_
                refine lv_iload hx hb dX6_bringsAll_103 (lv_at hl 0 rfl) ?_
                refine va_lald hx hb hK hP 8 1 rfl rfl (tr_in h_90564 (by decide) (by decide)) dX6_bringsAll_105 ?_
                refine lv_topl (fun w_90566 _ => ?_)
                refine lv_lconst (v := 0) hx hb dX6_bringsAll_106 (by decide) ?_
                refine W.lcmp hx hb dX6_bringsAll_107 ?_
                refine lv_topi (fun v_90567 v_90567_e => ?_)
                have h_v_90567 : (-1) ≤ (v_90567 : Int32).toInt ∧ (v_90567 : Int32).toInt ≤ 1 := by rw [v_90567_e]; exact tr_cmp _ _
                refine lv_if_le (tgt := 122) hx hb dX6_bringsAll_108 (by decide) (fun c_90568 => ?_) (fun c_90568 => ?_)
                · skip
                  have c_90568_i := Int32.le_iff_toInt_le.mp c_90568
                  have h_90569 : (-1) ≤ (v_90567 : Int32).toInt ∧ (v_90567 : Int32).toInt ≤ 0 := nr_le_l h_v_90567 (⟨by decide, by decide⟩ : 0 ≤ (0 : Int32).toInt ∧ (0 : Int32).toInt ≤ 0) c_90568_i (by decide) (by decide)
                  obtain ⟨v_90571, v_90571_e⟩ : ∃ y : Int32, y = x_90561 + Int32.ofInt 1 := ⟨_, rfl⟩
                  have h_v_90571 : 1 ≤ (v_90571 : Int32).toInt ∧ (v_90571 : Int32).toInt ≤ 12 := by rw [v_90571_e]; exact tr_add h_90564 (⟨by decide, by decide⟩ : 1 ≤ (Int32.ofInt 1 : Int32).toInt ∧ (Int32.ofInt 1 : Int32).toInt ≤ 1) (by decide) (by decide) (by decide) (by decide)
                  have q_v_90571 : v_90571.toInt = x_90561.toInt + 1 := by rw [v_90571_e]; exact tr_addE h_90564 (⟨by decide, by decide⟩ : 1 ≤ (Int32.ofInt 1 : Int32).toInt ∧ (Int32.ofInt 1 : Int32).toInt ≤ 1) (by decide) (by decide)
                  refine lv_iinc (v := v_90571) (lv' := [(4, .int v_90571), (3, .int x_90304), (2, .int x_90305), (0, .ref sv), (1, .ref vs)]) hx hb dX6_bringsAll_122 hl (k := 0) rfl v_90571_e.symm (by decide) rfl (fun ls hl => ?_)
                  refine lv_goto (tgt := 87) hx hb dX6_bringsAll_125 (by decide) ?_
                  exact ih_90562 v_90571 ls (tr_w h_v_90571 (by decide) (by decide)) (by (first | (clear h_x_90303 c_90307_i h_90309 h_v_90567 c_90568_i h_90569; omega) | omega)) (lv_sub hl [0, 1, 2, 3, 4] rfl)
                · skip
                  have c_90568_i := Int32.lt_iff_toInt_lt.mp (Int32.not_le.mp c_90568)
                  have h_90570 : 1 ≤ (v_90567 : Int32).toInt ∧ (v_90567 : Int32).toInt ≤ 1 := nr_lt_r (⟨by decide, by decide⟩ : 0 ≤ (0 : Int32).toInt ∧ (0 : Int32).toInt ≤ 0) h_v_90567 c_90568_i (by decide) (by decide)
                  refine lv_iload_n hx hb dX6_bringsAll_111 rfl (lv_at hl 2 rfl) ?_
                  refine lv_iload hx hb dX6_bringsAll_112 (lv_at hl 0 rfl) ?_
                  refine lv_ishr hx hb dX6_bringsAll_114 ?_
                  refine lv_topi (fun v_90572 v_90572_e => ?_)
                  refine lv_iconst (v := 1) hx hb dX6_bringsAll_115 (by decide) ?_
                  refine lv_iand hx hb dX6_bringsAll_116 ?_
                  refine lv_topi (fun v_90573 v_90573_e => ?_)
                  refine lv_if_ne (tgt := 122) hx hb dX6_bringsAll_117 (by decide) (fun c_90574 => ?_) (fun c_90574 => ?_)
                  · skip
                    obtain ⟨v_90576, v_90576_e⟩ : ∃ y : Int32, y = x_90561 + Int32.ofInt 1 := ⟨_, rfl⟩
                    have h_v_90576 : 1 ≤ (v_90576 : Int32).toInt ∧ (v_90576 : Int32).toInt ≤ 12 := by rw [v_90576_e]; exact tr_add h_90564 (⟨by decide, by decide⟩ : 1 ≤ (Int32.ofInt 1 : Int32).toInt ∧ (Int32.ofInt 1 : Int32).toInt ≤ 1) (by decide) (by decide) (by decide) (by decide)
                    have q_v_90576 : v_90576.toInt = x_90561.toInt + 1 := by rw [v_90576_e]; exact tr_addE h_90564 (⟨by decide, by decide⟩ : 1 ≤ (Int32.ofInt 1 : Int32).toInt ∧ (Int32.ofInt 1 : Int32).toInt ≤ 1) (by decide) (by decide)
                    refine lv_iinc (v := v_90576) (lv' := [(4, .int v_90576), (3, .int x_90304), (2, .int x_90305), (0, .ref sv), (1, .ref vs)]) hx hb dX6_bringsAll_122 hl (k := 0) rfl v_90576_e.symm (by decide) rfl (fun ls hl => ?_)
                    refine lv_goto (tgt := 87) hx hb dX6_bringsAll_125 (by decide) ?_
                    exact ih_90562 v_90576 ls (tr_w h_v_90576 (by decide) (by decide)) (by (first | (clear h_x_90303 c_90307_i h_90309 h_v_90567 c_90568_i h_90570; omega) | omega)) (lv_sub hl [0, 1, 2, 3, 4] rfl)
                  · skip
                    have h_90575 : 0 ≤ (v_90573 : Int32).toInt ∧ (v_90573 : Int32).toInt ≤ 0 := by rw [c_90574]; exact ⟨by decide, by decide⟩
                    refine lv_iconst (v := 0) hx hb dX6_bringsAll_120 (by decide) ?_
                    exact W.zret (v := 0) hx hb hr (by decide) (fun t ht hW => ⟨0, rfl, (⟨by decide, by decide⟩ : 0 ≤ (0 : Int32).toInt ∧ (0 : Int32).toInt ≤ 1), ht⟩) (fun _ h => nomatch h) dX6_bringsAll_121
          exact lp_90562 13 0 ls (⟨by decide, by decide⟩ : 0 ≤ (0 : Int32).toInt ∧ (0 : Int32).toInt ≤ 12) (by decide) (lv_sub hl [0, 1, 2, 3, 4] rfl)
        · skip
          refine lv_iload_n hx hb dX6_bringsAll_25 rfl (lv_at hl 2 rfl) ?_
          refine lv_istore_n (lv' := [(3, .int x_90305), (4, .int x_90303), (2, .int x_90305), (0, .ref sv), (1, .ref vs)]) hx hb dX6_bringsAll_26 rfl hl (by decide) rfl (fun ls hl => ?_)
          refine lv_iconst (v := 0) hx hb dX6_bringsAll_27 (by decide) ?_
          refine lv_istore (lv' := [(5, .int 0), (3, .int x_90305), (4, .int x_90303), (2, .int x_90305), (0, .ref sv), (1, .ref vs)]) hx hb dX6_bringsAll_28 hl (by decide) rfl (fun ls hl => ?_)
          have lp_90741 : ∀ (n_90741 : Nat) (x_90739 : Int32) (x_90740 : Int32) (ls : Array Slot), (0 ≤ (x_90739 : Int32).toInt ∧ (x_90739 : Int32).toInt ≤ 12) → (12 - x_90739.toInt < (n_90741 : Int)) → lv_has ls 6 [(5, .int x_90739), (3, .int x_90305), (4, .int x_90303), (2, .int x_90740), (0, .ref sv), (1, .ref vs)] → W p l e (headSpec (.code yX6_bringsAll cX6_bringsAll 6 (some .boolean) :: wsL_law) ({ frames := 2, cells := 0, slots := 0, locals := 50 })).room s m args below meth c s.heap [] 0 0 (MQ below (vp_Si (fun r => 0 ≤ (r : Int32).toInt ∧ (r : Int32).toInt ≤ 1)) args s 0 0 (fun _ => False)) (F0 m 30 ls []) := by
            intro n_90741
            induction n_90741 with
            | zero =>
              intro x_90739 x_90740 ls h_x_90739 hm_90741 hl
              exfalso; omega
            | succ n_90741 ih_90741 =>
              intro x_90739 x_90740 ls h_x_90739 hm_90741 hl
              refine lv_iload hx hb dX6_bringsAll_30 (lv_at hl 0 rfl) ?_
              refine lv_aload_n hx hb dX6_bringsAll_32 rfl (lv_at hl 4 rfl) ?_
              refine va_get (D := D) (ci := 6) (v := .ref n) (C := RX6) (T := TX6) (N := 4) hx hb hts inlX6 hown hK hP 0 rfl rfl 0 (by decide) (hts (Cond.fieldLink RX6 19 "ChanceRings$Solver" "net" "LChanceRings$Net;") qw_548) (fun _ h9 => h9) rfl dX6_bringsAll_33 ?_
              refine va_get (D := D) (ci := 2) (v := .int n_nodes) (C := RX2) (T := TX2) (N := 8) hx hb hts inlX2 hown hK hP 1 rfl rfl 0 (by decide) (hts (Cond.fieldLink RX6 32 "ChanceRings$Net" "nodes" "I") qw_549) (fun _ h9 => h9) rfl dX6_bringsAll_36 ?_
              refine lv_icmp_ge (tgt := 78) hx hb dX6_bringsAll_39 (by decide) (fun c_90742 => ?_) (fun c_90742 => ?_)
              · skip
                obtain ⟨v_90745, v_90745_e⟩ : ∃ y : Int32, y = x_90303 + Int32.ofInt 1 := ⟨_, rfl⟩
                have h_v_90745 : 1 ≤ (v_90745 : Int32).toInt ∧ (v_90745 : Int32).toInt ≤ 12 := by rw [v_90745_e]; exact tr_add h_90309 (⟨by decide, by decide⟩ : 1 ≤ (Int32.ofInt 1 : Int32).toInt ∧ (Int32.ofInt 1 : Int32).toInt ≤ 1) (by decide) (by decide) (by decide) (by decide)
                have q_v_90745 : v_90745.toInt = x_90303.toInt + 1 := by rw [v_90745_e]; exact tr_addE h_90309 (⟨by decide, by decide⟩ : 1 ≤ (Int32.ofInt 1 : Int32).toInt ∧ (Int32.ofInt 1 : Int32).toInt ≤ 1) (by decide) (by decide)
                refine lv_iinc (v := v_90745) (lv' := [(4, .int v_90745), (5, .int x_90739), (3, .int x_90305), (2, .int x_90740), (0, .ref sv), (1, .ref vs)]) hx hb dX6_bringsAll_78 hl (k := 2) rfl v_90745_e.symm (by decide) rfl (fun ls hl => ?_)
                refine lv_goto (tgt := 13) hx hb dX6_bringsAll_81 (by decide) ?_
                exact ih_90306 v_90745 x_90305 x_90740 ls (tr_w h_v_90745 (by decide) (by decide)) (by omega) (lv_sub hl [0, 2, 3, 4, 5] rfl)
              · skip
                have c_90742_i := Int32.lt_iff_toInt_lt.mp (Int32.not_le.mp c_90742)
                have h_90743 : 0 ≤ (x_90739 : Int32).toInt ∧ (x_90739 : Int32).toInt ≤ 11 := nr_lt_l h_x_90739 h_n_nodes c_90742_i (by decide) (by decide)
                have h_90744 : 1 ≤ (n_nodes : Int32).toInt ∧ (n_nodes : Int32).toInt ≤ 12 := nr_lt_r h_x_90739 h_n_nodes c_90742_i (by decide) (by decide)
                refine lv_aload_n hx hb dX6_bringsAll_42 rfl (lv_at hl 5 rfl) ?_
                refine va_get (D := D) (ci := 10) (v := .ref vs_part) (C := RX10) (T := TX10) (N := 2) hx hb hts inlX10 hown hK hP 7 rfl rfl 0 (by decide) (hts (Cond.fieldLink RX6 71 "ChanceRings$Values" "part" "[J") qw_553) (fun _ h9 => h9) rfl dX6_bringsAll_43 ?_
                refine lv_iload hx hb dX6_bringsAll_46 (lv_at hl 0 rfl) ?_
                refine va_lald hx hb hK hP 8 1 rfl rfl (tr_in h_90743 (by decide) (by decide)) dX6_bringsAll_48 ?_
                refine lv_topl (fun w_90746 _ => ?_)
                refine lv_lconst (v := 0) hx hb dX6_bringsAll_49 (by decide) ?_
                refine W.lcmp hx hb dX6_bringsAll_50 ?_
                refine lv_topi (fun v_90747 v_90747_e => ?_)
                have h_v_90747 : (-1) ≤ (v_90747 : Int32).toInt ∧ (v_90747 : Int32).toInt ≤ 1 := by rw [v_90747_e]; exact tr_cmp _ _
                refine lv_if_le (tgt := 72) hx hb dX6_bringsAll_51 (by decide) (fun c_90748 => ?_) (fun c_90748 => ?_)
                · skip
                  have c_90748_i := Int32.le_iff_toInt_le.mp c_90748
                  have h_90749 : (-1) ≤ (v_90747 : Int32).toInt ∧ (v_90747 : Int32).toInt ≤ 0 := nr_le_l h_v_90747 (⟨by decide, by decide⟩ : 0 ≤ (0 : Int32).toInt ∧ (0 : Int32).toInt ≤ 0) c_90748_i (by decide) (by decide)
                  obtain ⟨v_90751, v_90751_e⟩ : ∃ y : Int32, y = x_90739 + Int32.ofInt 1 := ⟨_, rfl⟩
                  have h_v_90751 : 1 ≤ (v_90751 : Int32).toInt ∧ (v_90751 : Int32).toInt ≤ 12 := by rw [v_90751_e]; exact tr_add h_90743 (⟨by decide, by decide⟩ : 1 ≤ (Int32.ofInt 1 : Int32).toInt ∧ (Int32.ofInt 1 : Int32).toInt ≤ 1) (by decide) (by decide) (by decide) (by decide)
                  have q_v_90751 : v_90751.toInt = x_90739.toInt + 1 := by rw [v_90751_e]; exact tr_addE h_90743 (⟨by decide, by decide⟩ : 1 ≤ (Int32.ofInt 1 : Int32).toInt ∧ (Int32.ofInt 1 : Int32).toInt ≤ 1) (by decide) (by decide)
                  refine lv_iinc (v := v_90751) (lv' := [(5, .int v_90751), (3, .int x_90305), (4, .int x_90303), (2, .int x_90740), (0, .ref sv), (1, .ref vs)]) hx hb dX6_bringsAll_72 hl (k := 0) rfl v_90751_e.symm (by decide) rfl (fun ls hl => ?_)
                  refine lv_goto (tgt := 30) hx hb dX6_bringsAll_75 (by decide) ?_
                  exact ih_90741 v_90751 x_90740 ls (tr_w h_v_90751 (by decide) (by decide)) (by (first | (clear h_x_90303 c_90307_i h_90309 h_v_90747 c_90748_i h_90749; omega) | omega)) (lv_sub hl [0, 1, 2, 3, 4, 5] rfl)
                · skip
                  have c_90748_i := Int32.lt_iff_toInt_lt.mp (Int32.not_le.mp c_90748)
                  have h_90750 : 1 ≤ (v_90747 : Int32).toInt ∧ (v_90747 : Int32).toInt ≤ 1 := nr_lt_r (⟨by decide, by decide⟩ : 0 ≤ (0 : Int32).toInt ∧ (0 : Int32).toInt ≤ 0) h_v_90747 c_90748_i (by decide) (by decide)
                  refine lv_aload_n hx hb dX6_bringsAll_54 rfl (lv_at hl 4 rfl) ?_
                  refine lv_iload hx hb dX6_bringsAll_55 (lv_at hl 0 rfl) ?_
                  refine lv_iload_n hx hb dX6_bringsAll_57 rfl (lv_at hl 3 rfl) ?_
                  refine lv_aload_n hx hb dX6_bringsAll_58 rfl (lv_at hl 5 rfl) ?_
                  have hPc := hP.sub (ws' := [(sv, .inr (6, [.ref n, .ref co, .ref sv_keep, .ref sv_scaled])), (n, .inr (2, [.int n_nodes, .ref n_kind, .ref n_pay, .ref n_name, .ref n_ways, .ref n_held, .ref n_targets, .ref n_weights])), (n_kind, .inl (g 0, 12, .inl n_fkind)), (n_pay, .inl (g 0, 12, .inl n_fpay)), (n_ways, .inl (g 0, 12, .inl n_fways)), (n_held, .inl (g 0, 12, .inl n_fheld)), (n_targets, .inl (g 0, 36, .inl n_ftargets)), (vs, .inr (10, [.ref vs_part, .long vsw])), (vs_part, .inl (g 1, 12, .inr (.inl vsp))), (sv_keep, .inl (g 0, 12, .inl kpf))]) [0, 1, 2, 3, 4, 5, 6, 7, 8, 9] rfl
                  refine vp_callSi (va_Run.run (va_runV (As := [.int x_90739, .int x_90740, .ref vs]) (rest := []) ⟨hx, hb, hml, hown, hts⟩ (c_X6_isBrought l D g sv x_90739 x_90740 vs n co sv_keep sv_scaled n_nodes n_kind n_pay n_name n_ways n_held n_targets n_weights n_fkind n_fpay n_fways n_fheld n_ftargets vs_part vsw vsp kpf (tr_w h_90743 (by decide) (by decide)) (tr_w h_90744 (by decide) (by decide)) (tr_wa h_n_fkind (by decide) (by decide)) (tr_wa h_n_fways (by decide) (by decide)) (tr_wa h_n_fheld (by decide) (by decide)) (tr_wa h_n_ftargets (by decide) (by decide))) (cwV 3 hts (tz_gV qw_589 qw_590 qw_591 qw_558 qw_592) rfl rfl rfl (by decide +kernel) ⟨Nat.le_of_ble_eq_true rfl, Nat.le_of_ble_eq_true rfl⟩) ⟨tz_blS, va_recv hK hPc (ci := 6) (q0 := 0) rfl rfl, tz_preS hPc hK⟩ rfl rfl hl.1 rfl (lv_room (Nat.le_of_ble_eq_true rfl)) dX6_bringsAll_59 ⟨Nat.le_of_ble_eq_true rfl, Nat.le_of_ble_eq_true rfl⟩)) (fun r_90752 hw => ?_)
                  have hw_90753 : 0 ≤ (r_90752 : Int32).toInt ∧ (r_90752 : Int32).toInt ≤ 1 := hw
                  refine lv_if_eq (tgt := 72) hx hb dX6_bringsAll_62 (by decide) (fun c_90754 => ?_) (fun c_90754 => ?_)
                  · skip
                    have c_90754_i : (r_90752 : Int32).toInt = (0 : Int32).toInt := congrArg Int32.toInt c_90754
                    have h_90755 : 0 ≤ (r_90752 : Int32).toInt ∧ (r_90752 : Int32).toInt ≤ 0 := nr_eq_l hw_90753 (⟨by decide, by decide⟩ : 0 ≤ (0 : Int32).toInt ∧ (0 : Int32).toInt ≤ 0) c_90754_i (by decide) (by decide)
                    obtain ⟨v_90757, v_90757_e⟩ : ∃ y : Int32, y = x_90739 + Int32.ofInt 1 := ⟨_, rfl⟩
                    have h_v_90757 : 1 ≤ (v_90757 : Int32).toInt ∧ (v_90757 : Int32).toInt ≤ 12 := by rw [v_90757_e]; exact tr_add h_90743 (⟨by decide, by decide⟩ : 1 ≤ (Int32.ofInt 1 : Int32).toInt ∧ (Int32.ofInt 1 : Int32).toInt ≤ 1) (by decide) (by decide) (by decide) (by decide)
                    have q_v_90757 : v_90757.toInt = x_90739.toInt + 1 := by rw [v_90757_e]; exact tr_addE h_90743 (⟨by decide, by decide⟩ : 1 ≤ (Int32.ofInt 1 : Int32).toInt ∧ (Int32.ofInt 1 : Int32).toInt ≤ 1) (by decide) (by decide)
                    refine lv_iinc (v := v_90757) (lv' := [(5, .int v_90757), (3, .int x_90305), (4, .int x_90303), (2, .int x_90740), (0, .ref sv), (1, .ref vs)]) hx hb dX6_bringsAll_72 hl (k := 0) rfl v_90757_e.symm (by decide) rfl (fun ls hl => ?_)
                    refine lv_goto (tgt := 30) hx hb dX6_bringsAll_75 (by decide) ?_
                    exact ih_90741 v_90757 x_90740 ls (tr_w h_v_90757 (by decide) (by decide)) (by (first | (clear h_x_90303 c_90307_i h_90309 h_v_90747 c_90748_i h_90750 hw_90753 c_90754_i h_90755; omega) | omega)) (lv_sub hl [0, 1, 2, 3, 4, 5] rfl)
                  · skip
                    have c_90754_i : ¬ (r_90752 : Int32).toInt = (0 : Int32).toInt := (fun q => c_90754 (Int32.toInt_inj.mp q))
                    have h_90756 : 1 ≤ (r_90752 : Int32).toInt ∧ (r_90752 : Int32).toInt ≤ 1 := nr_ne_l hw_90753 (⟨by decide, by decide⟩ : 0 ≤ (0 : Int32).toInt ∧ (0 : Int32).toInt ≤ 0) c_90754_i (by decide) (by decide)
                    refine lv_iload_n hx hb dX6_bringsAll_65 rfl (lv_at hl 3 rfl) ?_
                    refine lv_iconst (v := 1) hx hb dX6_bringsAll_66 (by decide) ?_
                    refine lv_iload hx hb dX6_bringsAll_67 (lv_at hl 0 rfl) ?_
                    refine lv_ishl hx hb dX6_bringsAll_69 ?_
                    refine lv_topi (fun v_90758 v_90758_e => ?_)
                    refine lv_ior hx hb dX6_bringsAll_70 ?_
                    refine lv_topi (fun v_90759 v_90759_e => ?_)
                    refine lv_istore_n (lv' := [(2, .int v_90759), (5, .int x_90739), (3, .int x_90305), (4, .int x_90303), (0, .ref sv), (1, .ref vs)]) hx hb dX6_bringsAll_71 rfl hl (by decide) rfl (fun ls hl => ?_)
                    obtain ⟨v_90760, v_90760_e⟩ : ∃ y : Int32, y = x_90739 + Int32.ofInt 1 := ⟨_, rfl⟩
                    have h_v_90760 : 1 ≤ (v_90760 : Int32).toInt ∧ (v_90760 : Int32).toInt ≤ 12 := by rw [v_90760_e]; exact tr_add h_90743 (⟨by decide, by decide⟩ : 1 ≤ (Int32.ofInt 1 : Int32).toInt ∧ (Int32.ofInt 1 : Int32).toInt ≤ 1) (by decide) (by decide) (by decide) (by decide)
                    have q_v_90760 : v_90760.toInt = x_90739.toInt + 1 := by rw [v_90760_e]; exact tr_addE h_90743 (⟨by decide, by decide⟩ : 1 ≤ (Int32.ofInt 1 : Int32).toInt ∧ (Int32.ofInt 1 : Int32).toInt ≤ 1) (by decide) (by decide)
                    refine lv_iinc (v := v_90760) (lv' := [(5, .int v_90760), (2, .int v_90759), (3, .int x_90305), (4, .int x_90303), (0, .ref sv), (1, .ref vs)]) hx hb dX6_bringsAll_72 hl (k := 1) rfl v_90760_e.symm (by decide) rfl (fun ls hl => ?_)
                    refine lv_goto (tgt := 30) hx hb dX6_bringsAll_75 (by decide) ?_
                    exact ih_90741 v_90760 v_90759 ls (tr_w h_v_90760 (by decide) (by decide)) (by (first | (clear h_x_90303 c_90307_i h_90309 h_v_90747 c_90748_i h_90750 hw_90753 c_90754_i h_90756; omega) | omega)) (lv_sub hl [0, 2, 3, 1, 4, 5] rfl)
          exact lp_90741 13 0 x_90305 ls (⟨by decide, by decide⟩ : 0 ≤ (0 : Int32).toInt ∧ (0 : Int32).toInt ≤ 12) (by decide) (lv_sub hl [0, 1, 2, 3, 4, 5] rfl)
  exact lp_90306 13 0 (-1) r_87620 ls (⟨by decide, by decide⟩ : 0 ≤ (0 : Int32).toInt ∧ (0 : Int32).toInt ≤ 12) (by decide) (lv_sub hl [0, 1, 2, 3, 4] rfl)
set_option maxHeartbeats 4000000 in
set_option maxRecDepth 100000 in
theorem c_X6_goodOf (l : Launch) (D : va_G) (g : Nat → ClassId) (sz : Nat) (sv : Nat) (p0 : Int32) (vs : Nat) (n : Nat) (co : Nat) (sv_keep : Nat) (sv_scaled : Nat) (n_nodes : Int32) (n_kind : Nat) (n_pay : Nat) (n_name : Nat) (n_ways : Nat) (n_held : Nat) (n_targets : Nat) (n_weights : Nat) (n_fkind : Nat → Int32) (n_fpay : Nat → Int32) (n_fways : Nat → Int32) (n_fheld : Nat → Int32) (n_ftargets : Nat → Int32) (vs_part : Nat) (vsw : Int64) (vsp : Nat → Int64) (kpf : Nat → Int32) (h_p0 : 0 ≤ (p0 : Int32).toInt ∧ (p0 : Int32).toInt ≤ 11) (h_n_nodes : 0 ≤ (n_nodes : Int32).toInt ∧ (n_nodes : Int32).toInt ≤ 12) (h_n_fkind : ∀ j : Nat, 0 ≤ (n_fkind j).toInt ∧ (n_fkind j).toInt ≤ 3) (h_n_fways : ∀ j : Nat, 0 ≤ (n_fways j).toInt ∧ (n_fways j).toInt ≤ 3) (h_n_fheld : ∀ j : Nat, (-1) ≤ (n_fheld j).toInt ∧ (n_fheld j).toInt ≤ 2) (h_n_ftargets : ∀ j : Nat, 0 ≤ (n_ftargets j).toInt ∧ (n_ftargets j).toInt ≤ 11) : Met l yX6_goodOf (.code yX6_goodOf cX6_goodOf 6 (some .int) :: wsL_law) ({ frames := 3, cells := 0, slots := 0, locals := 75 }) (va_Pc [.ref sv, .int p0, .ref vs] (fun U => U.heap.size = sz ∧ va_P D vwCl [(sv, .inr (6, [.ref n, .ref co, .ref sv_keep, .ref sv_scaled])), (n, .inr (2, [.int n_nodes, .ref n_kind, .ref n_pay, .ref n_name, .ref n_ways, .ref n_held, .ref n_targets, .ref n_weights])), (n_kind, .inl (g 0, 12, .inl n_fkind)), (n_pay, .inl (g 0, 12, .inl n_fpay)), (n_ways, .inl (g 0, 12, .inl n_fways)), (n_held, .inl (g 0, 12, .inl n_fheld)), (n_targets, .inl (g 0, 36, .inl n_ftargets)), (vs, .inr (10, [.ref vs_part, .long vsw])), (vs_part, .inl (g 1, 12, .inr (.inl vsp))), (sv_keep, .inl (g 0, 12, .inl kpf))] U.heap ∧ va_K D vwCl (TY g) U ∧ va_D (fun _ => True) [(sv, .inr (6, [.ref n, .ref co, .ref sv_keep, .ref sv_scaled])), (n, .inr (2, [.int n_nodes, .ref n_kind, .ref n_pay, .ref n_name, .ref n_ways, .ref n_held, .ref n_targets, .ref n_weights])), (n_kind, .inl (g 0, 12, .inl n_fkind)), (n_pay, .inl (g 0, 12, .inl n_fpay)), (n_ways, .inl (g 0, 12, .inl n_fways)), (n_held, .inl (g 0, 12, .inl n_fheld)), (n_targets, .inl (g 0, 36, .inl n_ftargets)), (vs, .inr (10, [.ref vs_part, .long vsw])), (vs_part, .inl (g 1, 12, .inr (.inl vsp))), (sv_keep, .inl (g 0, 12, .inl kpf))])) (va_Qi (fun r (_ : Unit) => True) (fun _ t => ∃ okp : Nat → Int32, va_P D vwCl [(sv, .inr (6, [.ref n, .ref co, .ref sv_keep, .ref sv_scaled])), (n, .inr (2, [.int n_nodes, .ref n_kind, .ref n_pay, .ref n_name, .ref n_ways, .ref n_held, .ref n_targets, .ref n_weights])), (n_kind, .inl (g 0, 12, .inl n_fkind)), (n_pay, .inl (g 0, 12, .inl n_fpay)), (n_ways, .inl (g 0, 12, .inl n_fways)), (n_held, .inl (g 0, 12, .inl n_fheld)), (n_targets, .inl (g 0, 36, .inl n_ftargets)), (vs, .inr (10, [.ref vs_part, .long vsw])), (vs_part, .inl (g 1, 12, .inr (.inl vsp))), (sv_keep, .inl (g 0, 12, .inl okp))] t.heap ∧ va_D (va_A [(sv, .inr (6, [.ref n, .ref co, .ref sv_keep, .ref sv_scaled])), (n, .inr (2, [.int n_nodes, .ref n_kind, .ref n_pay, .ref n_name, .ref n_ways, .ref n_held, .ref n_targets, .ref n_weights])), (n_kind, .inl (g 0, 12, .inl n_fkind)), (n_pay, .inl (g 0, 12, .inl n_fpay)), (n_ways, .inl (g 0, 12, .inl n_fways)), (n_held, .inl (g 0, 12, .inl n_fheld)), (n_targets, .inl (g 0, 36, .inl n_ftargets)), (vs, .inr (10, [.ref vs_part, .long vsw])), (vs_part, .inl (g 1, 12, .inr (.inl vsp))), (sv_keep, .inl (g 0, 12, .inl kpf))] sz) [(sv, .inr (6, [.ref n, .ref co, .ref sv_keep, .ref sv_scaled])), (n, .inr (2, [.int n_nodes, .ref n_kind, .ref n_pay, .ref n_name, .ref n_ways, .ref n_held, .ref n_targets, .ref n_weights])), (n_kind, .inl (g 0, 12, .inl n_fkind)), (n_pay, .inl (g 0, 12, .inl n_fpay)), (n_ways, .inl (g 0, 12, .inl n_fways)), (n_held, .inl (g 0, 12, .inl n_fheld)), (n_targets, .inl (g 0, 36, .inl n_ftargets)), (vs, .inr (10, [.ref vs_part, .long vsw])), (vs_part, .inl (g 1, 12, .inr (.inl vsp))), (sv_keep, .inl (g 0, 12, .inl okp))]) (va_A [(sv, .inr (6, [.ref n, .ref co, .ref sv_keep, .ref sv_scaled])), (n, .inr (2, [.int n_nodes, .ref n_kind, .ref n_pay, .ref n_name, .ref n_ways, .ref n_held, .ref n_targets, .ref n_weights])), (n_kind, .inl (g 0, 12, .inl n_fkind)), (n_pay, .inl (g 0, 12, .inl n_fpay)), (n_ways, .inl (g 0, 12, .inl n_fways)), (n_held, .inl (g 0, 12, .inl n_fheld)), (n_targets, .inl (g 0, 36, .inl n_ftargets)), (vs, .inr (10, [.ref vs_part, .long vsw])), (vs_part, .inl (g 1, 12, .inr (.inl vsp))), (sv_keep, .inl (g 0, 12, .inl kpf))] sz)) 0 0 (va_A [(sv, .inr (6, [.ref n, .ref co, .ref sv_keep, .ref sv_scaled])), (n, .inr (2, [.int n_nodes, .ref n_kind, .ref n_pay, .ref n_name, .ref n_ways, .ref n_held, .ref n_targets, .ref n_weights])), (n_kind, .inl (g 0, 12, .inl n_fkind)), (n_pay, .inl (g 0, 12, .inl n_fpay)), (n_ways, .inl (g 0, 12, .inl n_fways)), (n_held, .inl (g 0, 12, .inl n_fheld)), (n_targets, .inl (g 0, 36, .inl n_ftargets)), (vs, .inr (10, [.ref vs_part, .long vsw])), (vs_part, .inl (g 1, 12, .inr (.inl vsp))), (sv_keep, .inl (g 0, 12, .inl kpf))] sz) := by
  refine Met.ofW (cc := cX6_goodOf) (maxL := 6) (ret := (some .int)) (by decide) rfl ?_
  intro p e s m args below meth c s₁ B hml hv
  obtain ⟨ha, hsz, hP, hK, hD0⟩ := hv
  have hx := B.exec
  have hb := B.bytes
  have hr := B.returns
  have hts0 := atoms_spec (ws := (.code yX6_goodOf cX6_goodOf 6 (some .int) :: wsL_law)) B.pre
  have hts : ∀ w ∈ wsL_law, w.before args s = true := fun w h => hts0 w (List.mem_cons_of_mem _ h)
  have hown : s.vm.findClass RX6 = some m.cls := findClass_of_methodNamed B.named
  have hlocks := B.notSynchronized
  subst hsz
  have hD := hD0.self (sz := s.heap.size)
  generalize hAe : va_A [(sv, .inr (6, [.ref n, .ref co, .ref sv_keep, .ref sv_scaled])), (n, .inr (2, [.int n_nodes, .ref n_kind, .ref n_pay, .ref n_name, .ref n_ways, .ref n_held, .ref n_targets, .ref n_weights])), (n_kind, .inl (g 0, 12, .inl n_fkind)), (n_pay, .inl (g 0, 12, .inl n_fpay)), (n_ways, .inl (g 0, 12, .inl n_fways)), (n_held, .inl (g 0, 12, .inl n_fheld)), (n_targets, .inl (g 0, 36, .inl n_ftargets)), (vs, .inr (10, [.ref vs_part, .long vsw])), (vs_part, .inl (g 1, 12, .inr (.inl vsp))), (sv_keep, .inl (g 0, 12, .inl kpf))] s.heap.size = A at hD ⊢
  have hA : ∀ q : Nat, s.heap.size ≤ q → A q := fun q h => by rw [← hAe]; exact Or.inr h
  have hS : va_S A s.heap s.heap [] := va_S.rf
  have hP : va_P D vwCl [(sv, .inr (6, [.ref n, .ref co, .ref sv_keep, .ref sv_scaled])), (n, .inr (2, [.int n_nodes, .ref n_kind, .ref n_pay, .ref n_name, .ref n_ways, .ref n_held, .ref n_targets, .ref n_weights])), (n_kind, .inl (g 0, 12, .inl n_fkind)), (n_pay, .inl (g 0, 12, .inl n_fpay)), (n_ways, .inl (g 0, 12, .inl n_fways)), (n_held, .inl (g 0, 12, .inl n_fheld)), (n_targets, .inl (g 0, 36, .inl n_ftargets)), (vs, .inr (10, [.ref vs_part, .long vsw])), (vs_part, .inl (g 1, 12, .inr (.inl vsp))), (sv_keep, .inl (g 0, 12, .inl kpf))] s.heap := hP
  refine W.eq (g2 := entryFrame m ([.ref sv, .int p0, .ref vs] : List Value).toArray 6) (by rw [ha]) ?_
  have hl := lv_entry ([.ref sv, .int p0, .ref vs]) (n := 6) (Nat.le_of_ble_eq_true rfl)
  rw [lg_entry_eq]
  generalize (lg_sl ([.ref sv, .int p0, .ref vs]) ++ List.replicate (6 - (lg_sl ([.ref sv, .int p0, .ref vs])).length) Slot.unset).toArray = ls at hl ⊢
  have hl : lv_has ls 6 [(0, .ref sv), (1, .int p0), (2, .ref vs)] := hl
  refine lv_aload_n hx hb dX6_goodOf_0 rfl (lv_at hl 0 rfl) ?_
  refine va_get (D := D) (ci := 6) (v := .ref sv_keep) (C := RX6) (T := TX6) (N := 4) hx hb hts inlX6 hown hK hP 0 rfl rfl 2 (by decide) (hts (Cond.fieldLink RX6 9 "ChanceRings$Solver" "keep" "[I") qw_587) (fun _ h9 => h9) rfl dX6_goodOf_1 ?_
  refine lv_iload_n hx hb dX6_goodOf_4 rfl (lv_at hl 1 rfl) ?_
  refine va_iald hx hb hK hP 9 0 rfl rfl (tr_in h_p0 (by decide) (by decide)) dX6_goodOf_5 ?_
  refine lv_topi (fun v_90761 v_90761_e => ?_)
  refine lv_istore_n (lv' := [(3, .int v_90761), (0, .ref sv), (1, .int p0), (2, .ref vs)]) hx hb dX6_goodOf_6 rfl hl (by decide) rfl (fun ls hl => ?_)
  refine lv_aload_n hx hb dX6_goodOf_7 rfl (lv_at hl 1 rfl) ?_
  refine va_get (D := D) (ci := 6) (v := .ref n) (C := RX6) (T := TX6) (N := 4) hx hb hts inlX6 hown hK hP 0 rfl rfl 0 (by decide) (hts (Cond.fieldLink RX6 19 "ChanceRings$Solver" "net" "LChanceRings$Net;") qw_548) (fun _ h9 => h9) rfl dX6_goodOf_8 ?_
  refine va_get (D := D) (ci := 2) (v := .ref n_kind) (C := RX2) (T := TX2) (N := 8) hx hb hts inlX2 hown hK hP 1 rfl rfl 1 (by decide) (hts (Cond.fieldLink RX6 61 "ChanceRings$Net" "kind" "[I") qw_551) (fun _ h9 => h9) rfl dX6_goodOf_11 ?_
  refine lv_iload_n hx hb dX6_goodOf_14 rfl (lv_at hl 2 rfl) ?_
  refine va_iald hx hb hK hP 2 0 rfl rfl (tr_in h_p0 (by decide) (by decide)) dX6_goodOf_15 ?_
  refine lv_topi (fun v_90762 v_90762_e => ?_)
  have h_v_90762 : 0 ≤ (v_90762 : Int32).toInt ∧ (v_90762 : Int32).toInt ≤ 3 := by rw [v_90762_e]; exact h_n_fkind _
  refine lv_iconst (v := 2) hx hb dX6_goodOf_16 (by decide) ?_
  refine lv_icmp_ne (tgt := 22) hx hb dX6_goodOf_17 (by decide) (fun c_90763 => ?_) (fun c_90763 => ?_)
  · skip
    refine lv_iconst (v := 0) hx hb dX6_goodOf_22 (by decide) ?_
    refine lv_istore (lv' := [(4, .int 0), (3, .int v_90761), (0, .ref sv), (1, .int p0), (2, .ref vs)]) hx hb dX6_goodOf_23 hl (by decide) rfl (fun ls hl => ?_)
    refine lv_iconst (v := 0) hx hb dX6_goodOf_25 (by decide) ?_
    refine lv_istore (lv' := [(5, .int 0), (4, .int 0), (3, .int v_90761), (0, .ref sv), (1, .int p0), (2, .ref vs)]) hx hb dX6_goodOf_26 hl (by decide) rfl (fun ls hl => ?_)
    have lp_90855 : ∀ (n_90855 : Nat) (x_90852 : Int32) (f_90853 : Nat → Int32) (x_90854 : Int32) (H : Heap) (locs : List Loc) (ls : Array Slot), (0 ≤ (x_90852 : Int32).toInt ∧ (x_90852 : Int32).toInt ≤ 3) → (3 - x_90852.toInt < (n_90855 : Int)) → va_P D vwCl [(sv, .inr (6, [.ref n, .ref co, .ref sv_keep, .ref sv_scaled])), (n, .inr (2, [.int n_nodes, .ref n_kind, .ref n_pay, .ref n_name, .ref n_ways, .ref n_held, .ref n_targets, .ref n_weights])), (n_kind, .inl (g 0, 12, .inl n_fkind)), (n_pay, .inl (g 0, 12, .inl n_fpay)), (n_ways, .inl (g 0, 12, .inl n_fways)), (n_held, .inl (g 0, 12, .inl n_fheld)), (n_targets, .inl (g 0, 36, .inl n_ftargets)), (vs, .inr (10, [.ref vs_part, .long vsw])), (vs_part, .inl (g 1, 12, .inr (.inl vsp))), (sv_keep, .inl (g 0, 12, .inl f_90853))] H → va_D A [(sv, .inr (6, [.ref n, .ref co, .ref sv_keep, .ref sv_scaled])), (n, .inr (2, [.int n_nodes, .ref n_kind, .ref n_pay, .ref n_name, .ref n_ways, .ref n_held, .ref n_targets, .ref n_weights])), (n_kind, .inl (g 0, 12, .inl n_fkind)), (n_pay, .inl (g 0, 12, .inl n_fpay)), (n_ways, .inl (g 0, 12, .inl n_fways)), (n_held, .inl (g 0, 12, .inl n_fheld)), (n_targets, .inl (g 0, 36, .inl n_ftargets)), (vs, .inr (10, [.ref vs_part, .long vsw])), (vs_part, .inl (g 1, 12, .inr (.inl vsp))), (sv_keep, .inl (g 0, 12, .inl f_90853))] → va_S A s.heap H locs → lv_has ls 6 [(5, .int x_90852), (4, .int x_90854), (3, .int v_90761), (0, .ref sv), (1, .int p0), (2, .ref vs)] → W p l e (headSpec (.code yX6_goodOf cX6_goodOf 6 (some .int) :: wsL_law) ({ frames := 3, cells := 0, slots := 0, locals := 75 })).room s m args below meth c H locs 0 0 (MQ below (va_Qi (fun r (_ : Unit) => True) (fun _ t => ∃ okp : Nat → Int32, va_P D vwCl [(sv, .inr (6, [.ref n, .ref co, .ref sv_keep, .ref sv_scaled])), (n, .inr (2, [.int n_nodes, .ref n_kind, .ref n_pay, .ref n_name, .ref n_ways, .ref n_held, .ref n_targets, .ref n_weights])), (n_kind, .inl (g 0, 12, .inl n_fkind)), (n_pay, .inl (g 0, 12, .inl n_fpay)), (n_ways, .inl (g 0, 12, .inl n_fways)), (n_held, .inl (g 0, 12, .inl n_fheld)), (n_targets, .inl (g 0, 36, .inl n_ftargets)), (vs, .inr (10, [.ref vs_part, .long vsw])), (vs_part, .inl (g 1, 12, .inr (.inl vsp))), (sv_keep, .inl (g 0, 12, .inl okp))] t.heap ∧ va_D A [(sv, .inr (6, [.ref n, .ref co, .ref sv_keep, .ref sv_scaled])), (n, .inr (2, [.int n_nodes, .ref n_kind, .ref n_pay, .ref n_name, .ref n_ways, .ref n_held, .ref n_targets, .ref n_weights])), (n_kind, .inl (g 0, 12, .inl n_fkind)), (n_pay, .inl (g 0, 12, .inl n_fpay)), (n_ways, .inl (g 0, 12, .inl n_fways)), (n_held, .inl (g 0, 12, .inl n_fheld)), (n_targets, .inl (g 0, 36, .inl n_ftargets)), (vs, .inr (10, [.ref vs_part, .long vsw])), (vs_part, .inl (g 1, 12, .inr (.inl vsp))), (sv_keep, .inl (g 0, 12, .inl okp))]) A) args s 0 0 A) (F0 m 28 ls []) := by
      intro n_90855
      induction n_90855 with
      | zero =>
        intro x_90852 f_90853 x_90854 H locs ls h_x_90852 hm_90855 hP hD hS hl
        exfalso; omega
      | succ n_90855 ih_90855 =>
        intro x_90852 f_90853 x_90854 H locs ls h_x_90852 hm_90855 hP hD hS hl
        refine lv_iload hx hb dX6_goodOf_28 (lv_at hl 0 rfl) ?_
        refine lv_aload_n hx hb dX6_goodOf_30 rfl (lv_at hl 3 rfl) ?_
        refine va_get (D := D) (ci := 6) (v := .ref n) (C := RX6) (T := TX6) (N := 4) hx hb hts inlX6 hown hK hP 0 rfl rfl 0 (by decide) (hts (Cond.fieldLink RX6 19 "ChanceRings$Solver" "net" "LChanceRings$Net;") qw_548) (fun _ h9 => h9) rfl dX6_goodOf_31 ?_
        refine va_get (D := D) (ci := 2) (v := .ref n_ways) (C := RX2) (T := TX2) (N := 8) hx hb hts inlX2 hown hK hP 1 rfl rfl 4 (by decide) (hts (Cond.fieldLink RX6 68 "ChanceRings$Net" "ways" "[I") qw_552) (fun _ h9 => h9) rfl dX6_goodOf_34 ?_
        refine lv_iload_n hx hb dX6_goodOf_37 rfl (lv_at hl 4 rfl) ?_
        refine va_iald hx hb hK hP 4 0 rfl rfl (tr_in h_p0 (by decide) (by decide)) dX6_goodOf_38 ?_
        refine lv_topi (fun v_90856 v_90856_e => ?_)
        have h_v_90856 : 0 ≤ (v_90856 : Int32).toInt ∧ (v_90856 : Int32).toInt ≤ 3 := by rw [v_90856_e]; exact h_n_fways _
        refine lv_icmp_ge (tgt := 86) hx hb dX6_goodOf_39 (by decide) (fun c_90857 => ?_) (fun c_90857 => ?_)
        · skip
          refine lv_aload_n hx hb dX6_goodOf_86 rfl (lv_at hl 3 rfl) ?_
          refine va_get (D := D) (ci := 6) (v := .ref sv_keep) (C := RX6) (T := TX6) (N := 4) hx hb hts inlX6 hown hK hP 0 rfl rfl 2 (by decide) (hts (Cond.fieldLink RX6 9 "ChanceRings$Solver" "keep" "[I") qw_587) (fun _ h9 => h9) rfl dX6_goodOf_87 ?_
          refine lv_iload_n hx hb dX6_goodOf_90 rfl (lv_at hl 4 rfl) ?_
          refine lv_iload_n hx hb dX6_goodOf_91 rfl (lv_at hl 2 rfl) ?_
          refine va_iast hx hb hK hP hD hS 9 0 rfl rfl (tr_in h_p0 (by decide) (by decide)) dX6_goodOf_92 (fun H locs hP hD hS => ?_)
          obtain ⟨f_90860, hP, hD⟩ : ∃ FX : Nat → Int32, va_P D vwCl [(sv, .inr (6, [.ref n, .ref co, .ref sv_keep, .ref sv_scaled])), (n, .inr (2, [.int n_nodes, .ref n_kind, .ref n_pay, .ref n_name, .ref n_ways, .ref n_held, .ref n_targets, .ref n_weights])), (n_kind, .inl (g 0, 12, .inl n_fkind)), (n_pay, .inl (g 0, 12, .inl n_fpay)), (n_ways, .inl (g 0, 12, .inl n_fways)), (n_held, .inl (g 0, 12, .inl n_fheld)), (n_targets, .inl (g 0, 36, .inl n_ftargets)), (vs, .inr (10, [.ref vs_part, .long vsw])), (vs_part, .inl (g 1, 12, .inr (.inl vsp))), (sv_keep, .inl (g 0, 12, .inl FX))] H ∧ va_D A [(sv, .inr (6, [.ref n, .ref co, .ref sv_keep, .ref sv_scaled])), (n, .inr (2, [.int n_nodes, .ref n_kind, .ref n_pay, .ref n_name, .ref n_ways, .ref n_held, .ref n_targets, .ref n_weights])), (n_kind, .inl (g 0, 12, .inl n_fkind)), (n_pay, .inl (g 0, 12, .inl n_fpay)), (n_ways, .inl (g 0, 12, .inl n_fways)), (n_held, .inl (g 0, 12, .inl n_fheld)), (n_targets, .inl (g 0, 36, .inl n_ftargets)), (vs, .inr (10, [.ref vs_part, .long vsw])), (vs_part, .inl (g 1, 12, .inr (.inl vsp))), (sv_keep, .inl (g 0, 12, .inl FX))] := ⟨_, hP, hD⟩
          have hP : va_P D vwCl [(sv, .inr (6, [.ref n, .ref co, .ref sv_keep, .ref sv_scaled])), (n, .inr (2, [.int n_nodes, .ref n_kind, .ref n_pay, .ref n_name, .ref n_ways, .ref n_held, .ref n_targets, .ref n_weights])), (n_kind, .inl (g 0, 12, .inl n_fkind)), (n_pay, .inl (g 0, 12, .inl n_fpay)), (n_ways, .inl (g 0, 12, .inl n_fways)), (n_held, .inl (g 0, 12, .inl n_fheld)), (n_targets, .inl (g 0, 36, .inl n_ftargets)), (vs, .inr (10, [.ref vs_part, .long vsw])), (vs_part, .inl (g 1, 12, .inr (.inl vsp))), (sv_keep, .inl (g 0, 12, .inl f_90860))] H := hP
          have hD : va_D A [(sv, .inr (6, [.ref n, .ref co, .ref sv_keep, .ref sv_scaled])), (n, .inr (2, [.int n_nodes, .ref n_kind, .ref n_pay, .ref n_name, .ref n_ways, .ref n_held, .ref n_targets, .ref n_weights])), (n_kind, .inl (g 0, 12, .inl n_fkind)), (n_pay, .inl (g 0, 12, .inl n_fpay)), (n_ways, .inl (g 0, 12, .inl n_fways)), (n_held, .inl (g 0, 12, .inl n_fheld)), (n_targets, .inl (g 0, 36, .inl n_ftargets)), (vs, .inr (10, [.ref vs_part, .long vsw])), (vs_part, .inl (g 1, 12, .inr (.inl vsp))), (sv_keep, .inl (g 0, 12, .inl f_90860))] := hD
          refine lv_iload hx hb dX6_goodOf_93 (lv_at hl 1 rfl) ?_
          have hP9 := hP.sub (ws' := [(sv, .inr (6, [.ref n, .ref co, .ref sv_keep, .ref sv_scaled])), (n, .inr (2, [.int n_nodes, .ref n_kind, .ref n_pay, .ref n_name, .ref n_ways, .ref n_held, .ref n_targets, .ref n_weights])), (n_kind, .inl (g 0, 12, .inl n_fkind)), (n_pay, .inl (g 0, 12, .inl n_fpay)), (n_ways, .inl (g 0, 12, .inl n_fways)), (n_held, .inl (g 0, 12, .inl n_fheld)), (n_targets, .inl (g 0, 36, .inl n_ftargets)), (vs, .inr (10, [.ref vs_part, .long vsw])), (vs_part, .inl (g 1, 12, .inr (.inl vsp))), (sv_keep, .inl (g 0, 12, .inl f_90860))]) [0, 1, 2, 3, 4, 5, 6, 7, 8, 9] rfl
          have hD9 := hD.sub (ws' := [(sv, .inr (6, [.ref n, .ref co, .ref sv_keep, .ref sv_scaled])), (n, .inr (2, [.int n_nodes, .ref n_kind, .ref n_pay, .ref n_name, .ref n_ways, .ref n_held, .ref n_targets, .ref n_weights])), (n_kind, .inl (g 0, 12, .inl n_fkind)), (n_pay, .inl (g 0, 12, .inl n_fpay)), (n_ways, .inl (g 0, 12, .inl n_fways)), (n_held, .inl (g 0, 12, .inl n_fheld)), (n_targets, .inl (g 0, 36, .inl n_ftargets)), (vs, .inr (10, [.ref vs_part, .long vsw])), (vs_part, .inl (g 1, 12, .inr (.inl vsp))), (sv_keep, .inl (g 0, 12, .inl f_90860))]) [0, 1, 2, 3, 4, 5, 6, 7, 8, 9] (by decide) rfl
          exact W.iret (v := x_90854) hx hb hr (fun t ht hW => ⟨⟨x_90854, (), rfl, trivial, f_90860, by rw [ht]; exact hP9, hD9⟩, hS.F ht⟩) hS.2.2 dX6_goodOf_95
        · skip
          have c_90857_i := Int32.lt_iff_toInt_lt.mp (Int32.not_le.mp c_90857)
          have h_90858 : 0 ≤ (x_90852 : Int32).toInt ∧ (x_90852 : Int32).toInt ≤ 2 := nr_lt_l h_x_90852 h_v_90856 c_90857_i (by decide) (by decide)
          have h_90859 : 1 ≤ (v_90856 : Int32).toInt ∧ (v_90856 : Int32).toInt ≤ 3 := nr_lt_r h_x_90852 h_v_90856 c_90857_i (by decide) (by decide)
          refine lv_aload_n hx hb dX6_goodOf_42 rfl (lv_at hl 3 rfl) ?_
          refine va_get (D := D) (ci := 6) (v := .ref sv_keep) (C := RX6) (T := TX6) (N := 4) hx hb hts inlX6 hown hK hP 0 rfl rfl 2 (by decide) (hts (Cond.fieldLink RX6 9 "ChanceRings$Solver" "keep" "[I") qw_587) (fun _ h9 => h9) rfl dX6_goodOf_43 ?_
          refine lv_iload_n hx hb dX6_goodOf_46 rfl (lv_at hl 4 rfl) ?_
          refine lv_iload_n hx hb dX6_goodOf_47 rfl (lv_at hl 2 rfl) ?_
          refine lv_iconst (v := 1) hx hb dX6_goodOf_48 (by decide) ?_
          refine lv_iload hx hb dX6_goodOf_49 (lv_at hl 0 rfl) ?_
          refine lv_ishl hx hb dX6_goodOf_51 ?_
          refine lv_topi (fun v_90861 v_90861_e => ?_)
          refine lv_iand hx hb dX6_goodOf_52 ?_
          refine lv_topi (fun v_90862 v_90862_e => ?_)
          refine va_iast hx hb hK hP hD hS 9 0 rfl rfl (tr_in h_p0 (by decide) (by decide)) dX6_goodOf_53 (fun H locs hP hD hS => ?_)
          obtain ⟨f_90863, hP, hD⟩ : ∃ FX : Nat → Int32, va_P D vwCl [(sv, .inr (6, [.ref n, .ref co, .ref sv_keep, .ref sv_scaled])), (n, .inr (2, [.int n_nodes, .ref n_kind, .ref n_pay, .ref n_name, .ref n_ways, .ref n_held, .ref n_targets, .ref n_weights])), (n_kind, .inl (g 0, 12, .inl n_fkind)), (n_pay, .inl (g 0, 12, .inl n_fpay)), (n_ways, .inl (g 0, 12, .inl n_fways)), (n_held, .inl (g 0, 12, .inl n_fheld)), (n_targets, .inl (g 0, 36, .inl n_ftargets)), (vs, .inr (10, [.ref vs_part, .long vsw])), (vs_part, .inl (g 1, 12, .inr (.inl vsp))), (sv_keep, .inl (g 0, 12, .inl FX))] H ∧ va_D A [(sv, .inr (6, [.ref n, .ref co, .ref sv_keep, .ref sv_scaled])), (n, .inr (2, [.int n_nodes, .ref n_kind, .ref n_pay, .ref n_name, .ref n_ways, .ref n_held, .ref n_targets, .ref n_weights])), (n_kind, .inl (g 0, 12, .inl n_fkind)), (n_pay, .inl (g 0, 12, .inl n_fpay)), (n_ways, .inl (g 0, 12, .inl n_fways)), (n_held, .inl (g 0, 12, .inl n_fheld)), (n_targets, .inl (g 0, 36, .inl n_ftargets)), (vs, .inr (10, [.ref vs_part, .long vsw])), (vs_part, .inl (g 1, 12, .inr (.inl vsp))), (sv_keep, .inl (g 0, 12, .inl FX))] := ⟨_, hP, hD⟩
          have hP : va_P D vwCl [(sv, .inr (6, [.ref n, .ref co, .ref sv_keep, .ref sv_scaled])), (n, .inr (2, [.int n_nodes, .ref n_kind, .ref n_pay, .ref n_name, .ref n_ways, .ref n_held, .ref n_targets, .ref n_weights])), (n_kind, .inl (g 0, 12, .inl n_fkind)), (n_pay, .inl (g 0, 12, .inl n_fpay)), (n_ways, .inl (g 0, 12, .inl n_fways)), (n_held, .inl (g 0, 12, .inl n_fheld)), (n_targets, .inl (g 0, 36, .inl n_ftargets)), (vs, .inr (10, [.ref vs_part, .long vsw])), (vs_part, .inl (g 1, 12, .inr (.inl vsp))), (sv_keep, .inl (g 0, 12, .inl f_90863))] H := hP
          have hD : va_D A [(sv, .inr (6, [.ref n, .ref co, .ref sv_keep, .ref sv_scaled])), (n, .inr (2, [.int n_nodes, .ref n_kind, .ref n_pay, .ref n_name, .ref n_ways, .ref n_held, .ref n_targets, .ref n_weights])), (n_kind, .inl (g 0, 12, .inl n_fkind)), (n_pay, .inl (g 0, 12, .inl n_fpay)), (n_ways, .inl (g 0, 12, .inl n_fways)), (n_held, .inl (g 0, 12, .inl n_fheld)), (n_targets, .inl (g 0, 36, .inl n_ftargets)), (vs, .inr (10, [.ref vs_part, .long vsw])), (vs_part, .inl (g 1, 12, .inr (.inl vsp))), (sv_keep, .inl (g 0, 12, .inl f_90863))] := hD
          refine lv_aload_n hx hb dX6_goodOf_54 rfl (lv_at hl 3 rfl) ?_
          refine va_get (D := D) (ci := 6) (v := .ref sv_keep) (C := RX6) (T := TX6) (N := 4) hx hb hts inlX6 hown hK hP 0 rfl rfl 2 (by decide) (hts (Cond.fieldLink RX6 9 "ChanceRings$Solver" "keep" "[I") qw_587) (fun _ h9 => h9) rfl dX6_goodOf_55 ?_
          refine lv_iload_n hx hb dX6_goodOf_58 rfl (lv_at hl 4 rfl) ?_
          refine va_iald hx hb hK hP 9 0 rfl rfl (tr_in h_p0 (by decide) (by decide)) dX6_goodOf_59 ?_
          refine lv_topi (fun v_90864 v_90864_e => ?_)
          refine lv_if_eq (tgt := 80) hx hb dX6_goodOf_60 (by decide) (fun c_90865 => ?_) (fun c_90865 => ?_)
          · skip
            have h_90866 : 0 ≤ (v_90864 : Int32).toInt ∧ (v_90864 : Int32).toInt ≤ 0 := by rw [c_90865]; exact ⟨by decide, by decide⟩
            obtain ⟨v_90867, v_90867_e⟩ : ∃ y : Int32, y = x_90852 + Int32.ofInt 1 := ⟨_, rfl⟩
            have h_v_90867 : 1 ≤ (v_90867 : Int32).toInt ∧ (v_90867 : Int32).toInt ≤ 3 := by rw [v_90867_e]; exact tr_add h_90858 (⟨by decide, by decide⟩ : 1 ≤ (Int32.ofInt 1 : Int32).toInt ∧ (Int32.ofInt 1 : Int32).toInt ≤ 1) (by decide) (by decide) (by decide) (by decide)
            have q_v_90867 : v_90867.toInt = x_90852.toInt + 1 := by rw [v_90867_e]; exact tr_addE h_90858 (⟨by decide, by decide⟩ : 1 ≤ (Int32.ofInt 1 : Int32).toInt ∧ (Int32.ofInt 1 : Int32).toInt ≤ 1) (by decide) (by decide)
            refine lv_iinc (v := v_90867) (lv' := [(5, .int v_90867), (4, .int x_90854), (3, .int v_90761), (0, .ref sv), (1, .int p0), (2, .ref vs)]) hx hb dX6_goodOf_80 hl (k := 0) rfl v_90867_e.symm (by decide) rfl (fun ls hl => ?_)
            refine lv_goto (tgt := 28) hx hb dX6_goodOf_83 (by decide) ?_
            exact ih_90855 v_90867 f_90863 x_90854 H _ ls (tr_w h_v_90867 (by decide) (by decide)) (by (first | (clear h_p0 h_n_nodes h_v_90762 h_90866; omega) | omega)) (hP.sub [0, 1, 2, 3, 4, 5, 6, 7, 8, 9] rfl) (hD.sub [0, 1, 2, 3, 4, 5, 6, 7, 8, 9] (by decide) rfl) hS (lv_sub hl [0, 1, 2, 3, 4, 5] rfl)
          · skip
            refine lv_aload_n hx hb dX6_goodOf_63 rfl (lv_at hl 3 rfl) ?_
            refine lv_aload_n hx hb dX6_goodOf_64 rfl (lv_at hl 5 rfl) ?_
            have hPc := hP.sub (ws' := [(sv, .inr (6, [.ref n, .ref co, .ref sv_keep, .ref sv_scaled])), (n, .inr (2, [.int n_nodes, .ref n_kind, .ref n_pay, .ref n_name, .ref n_ways, .ref n_held, .ref n_targets, .ref n_weights])), (n_kind, .inl (g 0, 12, .inl n_fkind)), (n_pay, .inl (g 0, 12, .inl n_fpay)), (n_ways, .inl (g 0, 12, .inl n_fways)), (n_held, .inl (g 0, 12, .inl n_fheld)), (n_targets, .inl (g 0, 36, .inl n_ftargets)), (vs, .inr (10, [.ref vs_part, .long vsw])), (vs_part, .inl (g 1, 12, .inr (.inl vsp))), (sv_keep, .inl (g 0, 12, .inl f_90863))]) [0, 1, 2, 3, 4, 5, 6, 7, 8, 9] rfl
            refine vp_callSi (va_Run.run (va_runV (As := [.ref vs]) (rest := []) ⟨hx, hb, hml, hown, hts⟩ (c_X6_bringsAll l D g sv vs n co sv_keep sv_scaled n_nodes n_kind n_pay n_name n_ways n_held n_targets n_weights n_fkind n_fpay n_fways n_fheld n_ftargets vs_part vsw vsp f_90863 (tr_w h_n_nodes (by decide) (by decide)) (tr_wa h_n_fkind (by decide) (by decide)) (tr_wa h_n_fways (by decide) (by decide)) (tr_wa h_n_fheld (by decide) (by decide)) (tr_wa h_n_ftargets (by decide) (by decide))) (cwV 1 hts (tz_gV qw_593 qw_594 qw_595 qw_558 qw_596) rfl rfl rfl (by decide +kernel) ⟨Nat.le_of_ble_eq_true rfl, Nat.le_of_ble_eq_true rfl⟩) ⟨tz_blS, va_recv hK hPc (ci := 6) (q0 := 0) rfl rfl, tz_preS hPc hK⟩ rfl rfl hl.1 rfl (lv_room (Nat.le_of_ble_eq_true rfl)) dX6_goodOf_65 ⟨Nat.le_of_ble_eq_true rfl, Nat.le_of_ble_eq_true rfl⟩)) (fun r_90868 hw => ?_)
            have hw_90869 : 0 ≤ (r_90868 : Int32).toInt ∧ (r_90868 : Int32).toInt ≤ 1 := hw
            refine lv_if_eq (tgt := 80) hx hb dX6_goodOf_68 (by decide) (fun c_90870 => ?_) (fun c_90870 => ?_)
            · skip
              have c_90870_i : (r_90868 : Int32).toInt = (0 : Int32).toInt := congrArg Int32.toInt c_90870
              have h_90871 : 0 ≤ (r_90868 : Int32).toInt ∧ (r_90868 : Int32).toInt ≤ 0 := nr_eq_l hw_90869 (⟨by decide, by decide⟩ : 0 ≤ (0 : Int32).toInt ∧ (0 : Int32).toInt ≤ 0) c_90870_i (by decide) (by decide)
              obtain ⟨v_90873, v_90873_e⟩ : ∃ y : Int32, y = x_90852 + Int32.ofInt 1 := ⟨_, rfl⟩
              have h_v_90873 : 1 ≤ (v_90873 : Int32).toInt ∧ (v_90873 : Int32).toInt ≤ 3 := by rw [v_90873_e]; exact tr_add h_90858 (⟨by decide, by decide⟩ : 1 ≤ (Int32.ofInt 1 : Int32).toInt ∧ (Int32.ofInt 1 : Int32).toInt ≤ 1) (by decide) (by decide) (by decide) (by decide)
              have q_v_90873 : v_90873.toInt = x_90852.toInt + 1 := by rw [v_90873_e]; exact tr_addE h_90858 (⟨by decide, by decide⟩ : 1 ≤ (Int32.ofInt 1 : Int32).toInt ∧ (Int32.ofInt 1 : Int32).toInt ≤ 1) (by decide) (by decide)
              refine lv_iinc (v := v_90873) (lv' := [(5, .int v_90873), (4, .int x_90854), (3, .int v_90761), (0, .ref sv), (1, .int p0), (2, .ref vs)]) hx hb dX6_goodOf_80 hl (k := 0) rfl v_90873_e.symm (by decide) rfl (fun ls hl => ?_)
              refine lv_goto (tgt := 28) hx hb dX6_goodOf_83 (by decide) ?_
              exact ih_90855 v_90873 f_90863 x_90854 H _ ls (tr_w h_v_90873 (by decide) (by decide)) (by (first | (clear h_p0 h_n_nodes h_v_90762 hw_90869 c_90870_i h_90871; omega) | omega)) (hP.sub [0, 1, 2, 3, 4, 5, 6, 7, 8, 9] rfl) (hD.sub [0, 1, 2, 3, 4, 5, 6, 7, 8, 9] (by decide) rfl) hS (lv_sub hl [0, 1, 2, 3, 4, 5] rfl)
            · skip
              have c_90870_i : ¬ (r_90868 : Int32).toInt = (0 : Int32).toInt := (fun q => c_90870 (Int32.toInt_inj.mp q))
              have h_90872 : 1 ≤ (r_90868 : Int32).toInt ∧ (r_90868 : Int32).toInt ≤ 1 := nr_ne_l hw_90869 (⟨by decide, by decide⟩ : 0 ≤ (0 : Int32).toInt ∧ (0 : Int32).toInt ≤ 0) c_90870_i (by decide) (by decide)
              refine lv_iload hx hb dX6_goodOf_71 (lv_at hl 1 rfl) ?_
              refine lv_iconst (v := 1) hx hb dX6_goodOf_73 (by decide) ?_
              refine lv_iload hx hb dX6_goodOf_74 (lv_at hl 0 rfl) ?_
              refine lv_ishl hx hb dX6_goodOf_76 ?_
              refine lv_topi (fun v_90874 v_90874_e => ?_)
              refine lv_ior hx hb dX6_goodOf_77 ?_
              refine lv_topi (fun v_90875 v_90875_e => ?_)
              refine lv_istore (lv' := [(4, .int v_90875), (5, .int x_90852), (3, .int v_90761), (0, .ref sv), (1, .int p0), (2, .ref vs)]) hx hb dX6_goodOf_78 hl (by decide) rfl (fun ls hl => ?_)
              obtain ⟨v_90876, v_90876_e⟩ : ∃ y : Int32, y = x_90852 + Int32.ofInt 1 := ⟨_, rfl⟩
              have h_v_90876 : 1 ≤ (v_90876 : Int32).toInt ∧ (v_90876 : Int32).toInt ≤ 3 := by rw [v_90876_e]; exact tr_add h_90858 (⟨by decide, by decide⟩ : 1 ≤ (Int32.ofInt 1 : Int32).toInt ∧ (Int32.ofInt 1 : Int32).toInt ≤ 1) (by decide) (by decide) (by decide) (by decide)
              have q_v_90876 : v_90876.toInt = x_90852.toInt + 1 := by rw [v_90876_e]; exact tr_addE h_90858 (⟨by decide, by decide⟩ : 1 ≤ (Int32.ofInt 1 : Int32).toInt ∧ (Int32.ofInt 1 : Int32).toInt ≤ 1) (by decide) (by decide)
              refine lv_iinc (v := v_90876) (lv' := [(5, .int v_90876), (4, .int v_90875), (3, .int v_90761), (0, .ref sv), (1, .int p0), (2, .ref vs)]) hx hb dX6_goodOf_80 hl (k := 1) rfl v_90876_e.symm (by decide) rfl (fun ls hl => ?_)
              refine lv_goto (tgt := 28) hx hb dX6_goodOf_83 (by decide) ?_
              exact ih_90855 v_90876 f_90863 v_90875 H _ ls (tr_w h_v_90876 (by decide) (by decide)) (by (first | (clear h_p0 h_n_nodes h_v_90762 hw_90869 c_90870_i h_90872; omega) | omega)) (hP.sub [0, 1, 2, 3, 4, 5, 6, 7, 8, 9] rfl) (hD.sub [0, 1, 2, 3, 4, 5, 6, 7, 8, 9] (by decide) rfl) hS (lv_sub hl [0, 1, 2, 3, 4, 5] rfl)
    exact lp_90855 4 0 kpf 0 s.heap _ ls (⟨by decide, by decide⟩ : 0 ≤ (0 : Int32).toInt ∧ (0 : Int32).toInt ≤ 3) (by decide) (hP.sub [0, 1, 2, 3, 4, 5, 6, 7, 8, 9] rfl) (hD.sub [0, 1, 2, 3, 4, 5, 6, 7, 8, 9] (by decide) rfl) hS (lv_sub hl [0, 1, 2, 3, 4, 5] rfl)
  · skip
    have c_90763_i : (v_90762 : Int32).toInt = (2 : Int32).toInt := congrArg Int32.toInt c_90763
    have h_90764 : 2 ≤ (v_90762 : Int32).toInt ∧ (v_90762 : Int32).toInt ≤ 2 := nr_eq_l h_v_90762 (⟨by decide, by decide⟩ : 2 ≤ (2 : Int32).toInt ∧ (2 : Int32).toInt ≤ 2) c_90763_i (by decide) (by decide)
    refine lv_iload_n hx hb dX6_goodOf_20 rfl (lv_at hl 0 rfl) ?_
    have hP9 := hP.sub (ws' := [(sv, .inr (6, [.ref n, .ref co, .ref sv_keep, .ref sv_scaled])), (n, .inr (2, [.int n_nodes, .ref n_kind, .ref n_pay, .ref n_name, .ref n_ways, .ref n_held, .ref n_targets, .ref n_weights])), (n_kind, .inl (g 0, 12, .inl n_fkind)), (n_pay, .inl (g 0, 12, .inl n_fpay)), (n_ways, .inl (g 0, 12, .inl n_fways)), (n_held, .inl (g 0, 12, .inl n_fheld)), (n_targets, .inl (g 0, 36, .inl n_ftargets)), (vs, .inr (10, [.ref vs_part, .long vsw])), (vs_part, .inl (g 1, 12, .inr (.inl vsp))), (sv_keep, .inl (g 0, 12, .inl kpf))]) [0, 1, 2, 3, 4, 5, 6, 7, 8, 9] rfl
    have hD9 := hD.sub (ws' := [(sv, .inr (6, [.ref n, .ref co, .ref sv_keep, .ref sv_scaled])), (n, .inr (2, [.int n_nodes, .ref n_kind, .ref n_pay, .ref n_name, .ref n_ways, .ref n_held, .ref n_targets, .ref n_weights])), (n_kind, .inl (g 0, 12, .inl n_fkind)), (n_pay, .inl (g 0, 12, .inl n_fpay)), (n_ways, .inl (g 0, 12, .inl n_fways)), (n_held, .inl (g 0, 12, .inl n_fheld)), (n_targets, .inl (g 0, 36, .inl n_ftargets)), (vs, .inr (10, [.ref vs_part, .long vsw])), (vs_part, .inl (g 1, 12, .inr (.inl vsp))), (sv_keep, .inl (g 0, 12, .inl kpf))]) [0, 1, 2, 3, 4, 5, 6, 7, 8, 9] (by decide) rfl
    exact W.iret (v := v_90761) hx hb hr (fun t ht hW => ⟨⟨v_90761, (), rfl, trivial, kpf, by rw [ht]; exact hP9, hD9⟩, hS.F ht⟩) hS.2.2 dX6_goodOf_21
set_option maxHeartbeats 4000000 in
set_option maxRecDepth 100000 in
theorem c_X6_goodWays (l : Launch) (D : va_G) (g : Nat → ClassId) (sz : Nat) (sv : Nat) (p0 : Int32) (vs : Nat) (n : Nat) (co : Nat) (sv_keep : Nat) (sv_scaled : Nat) (n_nodes : Int32) (n_kind : Nat) (n_pay : Nat) (n_name : Nat) (n_ways : Nat) (n_held : Nat) (n_targets : Nat) (n_weights : Nat) (n_fkind : Nat → Int32) (n_fpay : Nat → Int32) (n_fways : Nat → Int32) (n_fheld : Nat → Int32) (n_ftargets : Nat → Int32) (vs_part : Nat) (vsw : Int64) (vsp : Nat → Int64) (kpf : Nat → Int32) (h_p0 : 0 ≤ (p0 : Int32).toInt ∧ (p0 : Int32).toInt ≤ 11) (h_n_nodes : 0 ≤ (n_nodes : Int32).toInt ∧ (n_nodes : Int32).toInt ≤ 12) (h_n_fkind : ∀ j : Nat, 0 ≤ (n_fkind j).toInt ∧ (n_fkind j).toInt ≤ 3) (h_n_fways : ∀ j : Nat, 0 ≤ (n_fways j).toInt ∧ (n_fways j).toInt ≤ 3) (h_n_fheld : ∀ j : Nat, (-1) ≤ (n_fheld j).toInt ∧ (n_fheld j).toInt ≤ 2) (h_n_ftargets : ∀ j : Nat, 0 ≤ (n_ftargets j).toInt ∧ (n_ftargets j).toInt ≤ 11) : Met l yX6_goodWays (.code yX6_goodWays cX6_goodWays 3 (some .int) :: wsL_law) ({ frames := 4, cells := 0, slots := 0, locals := 100 }) (va_Pc [.ref sv, .int p0, .ref vs] (fun U => U.heap.size = sz ∧ va_P D vwCl [(sv, .inr (6, [.ref n, .ref co, .ref sv_keep, .ref sv_scaled])), (n, .inr (2, [.int n_nodes, .ref n_kind, .ref n_pay, .ref n_name, .ref n_ways, .ref n_held, .ref n_targets, .ref n_weights])), (n_kind, .inl (g 0, 12, .inl n_fkind)), (n_pay, .inl (g 0, 12, .inl n_fpay)), (n_ways, .inl (g 0, 12, .inl n_fways)), (n_held, .inl (g 0, 12, .inl n_fheld)), (n_targets, .inl (g 0, 36, .inl n_ftargets)), (vs, .inr (10, [.ref vs_part, .long vsw])), (vs_part, .inl (g 1, 12, .inr (.inl vsp))), (sv_keep, .inl (g 0, 12, .inl kpf))] U.heap ∧ va_K D vwCl (TY g) U ∧ va_D (fun _ => True) [(sv, .inr (6, [.ref n, .ref co, .ref sv_keep, .ref sv_scaled])), (n, .inr (2, [.int n_nodes, .ref n_kind, .ref n_pay, .ref n_name, .ref n_ways, .ref n_held, .ref n_targets, .ref n_weights])), (n_kind, .inl (g 0, 12, .inl n_fkind)), (n_pay, .inl (g 0, 12, .inl n_fpay)), (n_ways, .inl (g 0, 12, .inl n_fways)), (n_held, .inl (g 0, 12, .inl n_fheld)), (n_targets, .inl (g 0, 36, .inl n_ftargets)), (vs, .inr (10, [.ref vs_part, .long vsw])), (vs_part, .inl (g 1, 12, .inr (.inl vsp))), (sv_keep, .inl (g 0, 12, .inl kpf))])) (va_Qi (fun r (_ : Unit) => True) (fun _ t => ∃ okp : Nat → Int32, va_P D vwCl [(sv, .inr (6, [.ref n, .ref co, .ref sv_keep, .ref sv_scaled])), (n, .inr (2, [.int n_nodes, .ref n_kind, .ref n_pay, .ref n_name, .ref n_ways, .ref n_held, .ref n_targets, .ref n_weights])), (n_kind, .inl (g 0, 12, .inl n_fkind)), (n_pay, .inl (g 0, 12, .inl n_fpay)), (n_ways, .inl (g 0, 12, .inl n_fways)), (n_held, .inl (g 0, 12, .inl n_fheld)), (n_targets, .inl (g 0, 36, .inl n_ftargets)), (vs, .inr (10, [.ref vs_part, .long vsw])), (vs_part, .inl (g 1, 12, .inr (.inl vsp))), (sv_keep, .inl (g 0, 12, .inl okp))] t.heap ∧ va_D (va_A [(sv, .inr (6, [.ref n, .ref co, .ref sv_keep, .ref sv_scaled])), (n, .inr (2, [.int n_nodes, .ref n_kind, .ref n_pay, .ref n_name, .ref n_ways, .ref n_held, .ref n_targets, .ref n_weights])), (n_kind, .inl (g 0, 12, .inl n_fkind)), (n_pay, .inl (g 0, 12, .inl n_fpay)), (n_ways, .inl (g 0, 12, .inl n_fways)), (n_held, .inl (g 0, 12, .inl n_fheld)), (n_targets, .inl (g 0, 36, .inl n_ftargets)), (vs, .inr (10, [.ref vs_part, .long vsw])), (vs_part, .inl (g 1, 12, .inr (.inl vsp))), (sv_keep, .inl (g 0, 12, .inl kpf))] sz) [(sv, .inr (6, [.ref n, .ref co, .ref sv_keep, .ref sv_scaled])), (n, .inr (2, [.int n_nodes, .ref n_kind, .ref n_pay, .ref n_name, .ref n_ways, .ref n_held, .ref n_targets, .ref n_weights])), (n_kind, .inl (g 0, 12, .inl n_fkind)), (n_pay, .inl (g 0, 12, .inl n_fpay)), (n_ways, .inl (g 0, 12, .inl n_fways)), (n_held, .inl (g 0, 12, .inl n_fheld)), (n_targets, .inl (g 0, 36, .inl n_ftargets)), (vs, .inr (10, [.ref vs_part, .long vsw])), (vs_part, .inl (g 1, 12, .inr (.inl vsp))), (sv_keep, .inl (g 0, 12, .inl okp))]) (va_A [(sv, .inr (6, [.ref n, .ref co, .ref sv_keep, .ref sv_scaled])), (n, .inr (2, [.int n_nodes, .ref n_kind, .ref n_pay, .ref n_name, .ref n_ways, .ref n_held, .ref n_targets, .ref n_weights])), (n_kind, .inl (g 0, 12, .inl n_fkind)), (n_pay, .inl (g 0, 12, .inl n_fpay)), (n_ways, .inl (g 0, 12, .inl n_fways)), (n_held, .inl (g 0, 12, .inl n_fheld)), (n_targets, .inl (g 0, 36, .inl n_ftargets)), (vs, .inr (10, [.ref vs_part, .long vsw])), (vs_part, .inl (g 1, 12, .inr (.inl vsp))), (sv_keep, .inl (g 0, 12, .inl kpf))] sz)) 0 0 (va_A [(sv, .inr (6, [.ref n, .ref co, .ref sv_keep, .ref sv_scaled])), (n, .inr (2, [.int n_nodes, .ref n_kind, .ref n_pay, .ref n_name, .ref n_ways, .ref n_held, .ref n_targets, .ref n_weights])), (n_kind, .inl (g 0, 12, .inl n_fkind)), (n_pay, .inl (g 0, 12, .inl n_fpay)), (n_ways, .inl (g 0, 12, .inl n_fways)), (n_held, .inl (g 0, 12, .inl n_fheld)), (n_targets, .inl (g 0, 36, .inl n_ftargets)), (vs, .inr (10, [.ref vs_part, .long vsw])), (vs_part, .inl (g 1, 12, .inr (.inl vsp))), (sv_keep, .inl (g 0, 12, .inl kpf))] sz) := by
  refine Met.ofW (cc := cX6_goodWays) (maxL := 3) (ret := (some .int)) (by decide) rfl ?_
  intro p e s m args below meth c s₁ B hml hv
  obtain ⟨ha, hsz, hP, hK, hD0⟩ := hv
  have hx := B.exec
  have hb := B.bytes
  have hr := B.returns
  have hts0 := atoms_spec (ws := (.code yX6_goodWays cX6_goodWays 3 (some .int) :: wsL_law)) B.pre
  have hts : ∀ w ∈ wsL_law, w.before args s = true := fun w h => hts0 w (List.mem_cons_of_mem _ h)
  have hown : s.vm.findClass RX6 = some m.cls := findClass_of_methodNamed B.named
  have hlocks := B.notSynchronized
  subst hsz
  have hD := hD0.self (sz := s.heap.size)
  generalize hAe : va_A [(sv, .inr (6, [.ref n, .ref co, .ref sv_keep, .ref sv_scaled])), (n, .inr (2, [.int n_nodes, .ref n_kind, .ref n_pay, .ref n_name, .ref n_ways, .ref n_held, .ref n_targets, .ref n_weights])), (n_kind, .inl (g 0, 12, .inl n_fkind)), (n_pay, .inl (g 0, 12, .inl n_fpay)), (n_ways, .inl (g 0, 12, .inl n_fways)), (n_held, .inl (g 0, 12, .inl n_fheld)), (n_targets, .inl (g 0, 36, .inl n_ftargets)), (vs, .inr (10, [.ref vs_part, .long vsw])), (vs_part, .inl (g 1, 12, .inr (.inl vsp))), (sv_keep, .inl (g 0, 12, .inl kpf))] s.heap.size = A at hD ⊢
  have hA : ∀ q : Nat, s.heap.size ≤ q → A q := fun q h => by rw [← hAe]; exact Or.inr h
  have hS : va_S A s.heap s.heap [] := va_S.rf
  have hP : va_P D vwCl [(sv, .inr (6, [.ref n, .ref co, .ref sv_keep, .ref sv_scaled])), (n, .inr (2, [.int n_nodes, .ref n_kind, .ref n_pay, .ref n_name, .ref n_ways, .ref n_held, .ref n_targets, .ref n_weights])), (n_kind, .inl (g 0, 12, .inl n_fkind)), (n_pay, .inl (g 0, 12, .inl n_fpay)), (n_ways, .inl (g 0, 12, .inl n_fways)), (n_held, .inl (g 0, 12, .inl n_fheld)), (n_targets, .inl (g 0, 36, .inl n_ftargets)), (vs, .inr (10, [.ref vs_part, .long vsw])), (vs_part, .inl (g 1, 12, .inr (.inl vsp))), (sv_keep, .inl (g 0, 12, .inl kpf))] s.heap := hP
  refine W.eq (g2 := entryFrame m ([.ref sv, .int p0, .ref vs] : List Value).toArray 3) (by rw [ha]) ?_
  have hl := lv_entry ([.ref sv, .int p0, .ref vs]) (n := 3) (Nat.le_of_ble_eq_true rfl)
  rw [lg_entry_eq]
  generalize (lg_sl ([.ref sv, .int p0, .ref vs]) ++ List.replicate (3 - (lg_sl ([.ref sv, .int p0, .ref vs])).length) Slot.unset).toArray = ls at hl ⊢
  have hl : lv_has ls 3 [(0, .ref sv), (1, .int p0), (2, .ref vs)] := hl
  refine lv_aload_n hx hb dX6_goodWays_0 rfl (lv_at hl 0 rfl) ?_
  refine lv_aload_n hx hb dX6_goodWays_1 rfl (lv_at hl 2 rfl) ?_
  have hPc := hP.sub (ws' := [(sv, .inr (6, [.ref n, .ref co, .ref sv_keep, .ref sv_scaled])), (n, .inr (2, [.int n_nodes, .ref n_kind, .ref n_pay, .ref n_name, .ref n_ways, .ref n_held, .ref n_targets, .ref n_weights])), (n_kind, .inl (g 0, 12, .inl n_fkind)), (n_pay, .inl (g 0, 12, .inl n_fpay)), (n_ways, .inl (g 0, 12, .inl n_fways)), (n_held, .inl (g 0, 12, .inl n_fheld)), (n_targets, .inl (g 0, 36, .inl n_ftargets)), (vs, .inr (10, [.ref vs_part, .long vsw])), (vs_part, .inl (g 1, 12, .inr (.inl vsp))), (sv_keep, .inl (g 0, 12, .inl kpf))]) [0, 1, 2, 3, 4, 5, 6, 7, 8, 9] rfl
  have hDc := hD.sub (ws' := [(sv, .inr (6, [.ref n, .ref co, .ref sv_keep, .ref sv_scaled])), (n, .inr (2, [.int n_nodes, .ref n_kind, .ref n_pay, .ref n_name, .ref n_ways, .ref n_held, .ref n_targets, .ref n_weights])), (n_kind, .inl (g 0, 12, .inl n_fkind)), (n_pay, .inl (g 0, 12, .inl n_fpay)), (n_ways, .inl (g 0, 12, .inl n_fways)), (n_held, .inl (g 0, 12, .inl n_fheld)), (n_targets, .inl (g 0, 36, .inl n_ftargets)), (vs, .inr (10, [.ref vs_part, .long vsw])), (vs_part, .inl (g 1, 12, .inr (.inl vsp))), (sv_keep, .inl (g 0, 12, .inl kpf))]) [0, 1, 2, 3, 4, 5, 6, 7, 8, 9] (by decide) rfl
  have hFc := va_free (wc := [(sv, .inr (6, [.ref n, .ref co, .ref sv_keep, .ref sv_scaled])), (n, .inr (2, [.int n_nodes, .ref n_kind, .ref n_pay, .ref n_name, .ref n_ways, .ref n_held, .ref n_targets, .ref n_weights])), (n_kind, .inl (g 0, 12, .inl n_fkind)), (n_pay, .inl (g 0, 12, .inl n_fpay)), (n_ways, .inl (g 0, 12, .inl n_fways)), (n_held, .inl (g 0, 12, .inl n_fheld)), (n_targets, .inl (g 0, 36, .inl n_ftargets)), (vs, .inr (10, [.ref vs_part, .long vsw])), (vs_part, .inl (g 1, 12, .inr (.inl vsp))), (sv_keep, .inl (g 0, 12, .inl kpf))]) hD hS hA [0, 1, 2, 3, 4, 5, 6, 7, 8, 9] rfl
  refine va_callv (va_runV (As := [.ref vs]) (rest := []) ⟨hx, hb, hml, hown, hts⟩ (c_X6_keepEven l D g s.heap.size sv vs n co sv_keep sv_scaled n_nodes n_kind n_pay n_name n_ways n_held n_targets n_weights n_fkind n_fpay n_fways n_fheld n_ftargets vs_part vsw vsp kpf (tr_w h_n_nodes (by decide) (by decide)) (tr_wa h_n_fkind (by decide) (by decide)) (tr_wa h_n_fways (by decide) (by decide)) (tr_wa h_n_fheld (by decide) (by decide)) (tr_wa h_n_ftargets (by decide) (by decide))) (cwV 1 hts (tz_gV qw_597 qw_598 qw_599 qw_558 qw_600) rfl rfl rfl (by decide +kernel) ⟨Nat.le_of_ble_eq_true rfl, Nat.le_of_ble_eq_true rfl⟩) ⟨tz_blQ, va_recv hK hPc (ci := 6) (q0 := 0) rfl rfl, tz_preQ hPc hK hDc⟩ rfl rfl hl.1 rfl (lv_room (Nat.le_of_ble_eq_true rfl)) dX6_goodWays_2 ⟨Nat.le_of_ble_eq_true rfl, Nat.le_of_ble_eq_true rfl⟩) hS (fun q _ h => hFc q h) hFc (fun u t H1 locs ht hvm hw hB hz1 hk1 hS => ?_)
  obtain ⟨okp_90878, hP1, hD1⟩ := hB
  rw [ht] at hP1
  obtain ⟨hP, hD⟩ := va_join (wr := []) (w1 := [(sv, .inr (6, [.ref n, .ref co, .ref sv_keep, .ref sv_scaled])), (n, .inr (2, [.int n_nodes, .ref n_kind, .ref n_pay, .ref n_name, .ref n_ways, .ref n_held, .ref n_targets, .ref n_weights])), (n_kind, .inl (g 0, 12, .inl n_fkind)), (n_pay, .inl (g 0, 12, .inl n_fpay)), (n_ways, .inl (g 0, 12, .inl n_fways)), (n_held, .inl (g 0, 12, .inl n_fheld)), (n_targets, .inl (g 0, 36, .inl n_ftargets)), (vs, .inr (10, [.ref vs_part, .long vsw])), (vs_part, .inl (g 1, 12, .inr (.inl vsp))), (sv_keep, .inl (g 0, 12, .inl okp_90878))]) hP hD [0, 1, 2, 3, 4, 5, 6, 7, 8, 9] [] rfl rfl (by decide) (by decide) hk1 hFc hP1 hD1
  generalize H1 = H at hP hS ⊢
  have hP : va_P D vwCl [(sv, .inr (6, [.ref n, .ref co, .ref sv_keep, .ref sv_scaled])), (n, .inr (2, [.int n_nodes, .ref n_kind, .ref n_pay, .ref n_name, .ref n_ways, .ref n_held, .ref n_targets, .ref n_weights])), (n_kind, .inl (g 0, 12, .inl n_fkind)), (n_pay, .inl (g 0, 12, .inl n_fpay)), (n_ways, .inl (g 0, 12, .inl n_fways)), (n_held, .inl (g 0, 12, .inl n_fheld)), (n_targets, .inl (g 0, 36, .inl n_ftargets)), (vs, .inr (10, [.ref vs_part, .long vsw])), (vs_part, .inl (g 1, 12, .inr (.inl vsp))), (sv_keep, .inl (g 0, 12, .inl okp_90878))] H := hP
  have hD : va_D A [(sv, .inr (6, [.ref n, .ref co, .ref sv_keep, .ref sv_scaled])), (n, .inr (2, [.int n_nodes, .ref n_kind, .ref n_pay, .ref n_name, .ref n_ways, .ref n_held, .ref n_targets, .ref n_weights])), (n_kind, .inl (g 0, 12, .inl n_fkind)), (n_pay, .inl (g 0, 12, .inl n_fpay)), (n_ways, .inl (g 0, 12, .inl n_fways)), (n_held, .inl (g 0, 12, .inl n_fheld)), (n_targets, .inl (g 0, 36, .inl n_ftargets)), (vs, .inr (10, [.ref vs_part, .long vsw])), (vs_part, .inl (g 1, 12, .inr (.inl vsp))), (sv_keep, .inl (g 0, 12, .inl okp_90878))] := hD
  refine lv_aload_n hx hb dX6_goodWays_5 rfl (lv_at hl 0 rfl) ?_
  refine lv_iload_n hx hb dX6_goodWays_6 rfl (lv_at hl 1 rfl) ?_
  refine lv_aload_n hx hb dX6_goodWays_7 rfl (lv_at hl 2 rfl) ?_
  have hPc := hP.sub (ws' := [(sv, .inr (6, [.ref n, .ref co, .ref sv_keep, .ref sv_scaled])), (n, .inr (2, [.int n_nodes, .ref n_kind, .ref n_pay, .ref n_name, .ref n_ways, .ref n_held, .ref n_targets, .ref n_weights])), (n_kind, .inl (g 0, 12, .inl n_fkind)), (n_pay, .inl (g 0, 12, .inl n_fpay)), (n_ways, .inl (g 0, 12, .inl n_fways)), (n_held, .inl (g 0, 12, .inl n_fheld)), (n_targets, .inl (g 0, 36, .inl n_ftargets)), (vs, .inr (10, [.ref vs_part, .long vsw])), (vs_part, .inl (g 1, 12, .inr (.inl vsp))), (sv_keep, .inl (g 0, 12, .inl okp_90878))]) [0, 1, 2, 3, 4, 5, 6, 7, 8, 9] rfl
  have hDc := hD.sub (ws' := [(sv, .inr (6, [.ref n, .ref co, .ref sv_keep, .ref sv_scaled])), (n, .inr (2, [.int n_nodes, .ref n_kind, .ref n_pay, .ref n_name, .ref n_ways, .ref n_held, .ref n_targets, .ref n_weights])), (n_kind, .inl (g 0, 12, .inl n_fkind)), (n_pay, .inl (g 0, 12, .inl n_fpay)), (n_ways, .inl (g 0, 12, .inl n_fways)), (n_held, .inl (g 0, 12, .inl n_fheld)), (n_targets, .inl (g 0, 36, .inl n_ftargets)), (vs, .inr (10, [.ref vs_part, .long vsw])), (vs_part, .inl (g 1, 12, .inr (.inl vsp))), (sv_keep, .inl (g 0, 12, .inl okp_90878))]) [0, 1, 2, 3, 4, 5, 6, 7, 8, 9] (by decide) rfl
  have hFc := va_free (wc := [(sv, .inr (6, [.ref n, .ref co, .ref sv_keep, .ref sv_scaled])), (n, .inr (2, [.int n_nodes, .ref n_kind, .ref n_pay, .ref n_name, .ref n_ways, .ref n_held, .ref n_targets, .ref n_weights])), (n_kind, .inl (g 0, 12, .inl n_fkind)), (n_pay, .inl (g 0, 12, .inl n_fpay)), (n_ways, .inl (g 0, 12, .inl n_fways)), (n_held, .inl (g 0, 12, .inl n_fheld)), (n_targets, .inl (g 0, 36, .inl n_ftargets)), (vs, .inr (10, [.ref vs_part, .long vsw])), (vs_part, .inl (g 1, 12, .inr (.inl vsp))), (sv_keep, .inl (g 0, 12, .inl okp_90878))]) hD hS hA [0, 1, 2, 3, 4, 5, 6, 7, 8, 9] rfl
  refine va_calli (va_runV (As := [.int p0, .ref vs]) (rest := []) ⟨hx, hb, hml, hown, hts⟩ (c_X6_goodOf l D g H.size sv p0 vs n co sv_keep sv_scaled n_nodes n_kind n_pay n_name n_ways n_held n_targets n_weights n_fkind n_fpay n_fways n_fheld n_ftargets vs_part vsw vsp okp_90878 (tr_w h_p0 (by decide) (by decide)) (tr_w h_n_nodes (by decide) (by decide)) (tr_wa h_n_fkind (by decide) (by decide)) (tr_wa h_n_fways (by decide) (by decide)) (tr_wa h_n_fheld (by decide) (by decide)) (tr_wa h_n_ftargets (by decide) (by decide))) (cwV 2 hts (tz_gV qw_601 qw_602 qw_603 qw_558 qw_604) rfl rfl rfl (by decide +kernel) ⟨Nat.le_of_ble_eq_true rfl, Nat.le_of_ble_eq_true rfl⟩) ⟨tz_blQ, va_recv hK hPc (ci := 6) (q0 := 0) rfl rfl, tz_preQ hPc hK hDc⟩ rfl rfl hl.1 rfl (lv_room (Nat.le_of_ble_eq_true rfl)) dX6_goodWays_8 ⟨Nat.le_of_ble_eq_true rfl, Nat.le_of_ble_eq_true rfl⟩) hS (fun q _ h => hFc q h) hFc (fun r_90879 u t H1 locs ht hvm hw hB hz1 hk1 hS => ?_)
  obtain ⟨okp_90880, hP1, hD1⟩ := hB
  rw [ht] at hP1
  obtain ⟨hP, hD⟩ := va_join (wr := []) (w1 := [(sv, .inr (6, [.ref n, .ref co, .ref sv_keep, .ref sv_scaled])), (n, .inr (2, [.int n_nodes, .ref n_kind, .ref n_pay, .ref n_name, .ref n_ways, .ref n_held, .ref n_targets, .ref n_weights])), (n_kind, .inl (g 0, 12, .inl n_fkind)), (n_pay, .inl (g 0, 12, .inl n_fpay)), (n_ways, .inl (g 0, 12, .inl n_fways)), (n_held, .inl (g 0, 12, .inl n_fheld)), (n_targets, .inl (g 0, 36, .inl n_ftargets)), (vs, .inr (10, [.ref vs_part, .long vsw])), (vs_part, .inl (g 1, 12, .inr (.inl vsp))), (sv_keep, .inl (g 0, 12, .inl okp_90880))]) hP hD [0, 1, 2, 3, 4, 5, 6, 7, 8, 9] [] rfl rfl (by decide) (by decide) hk1 hFc hP1 hD1
  generalize H1 = H at hP hS ⊢
  have hP : va_P D vwCl [(sv, .inr (6, [.ref n, .ref co, .ref sv_keep, .ref sv_scaled])), (n, .inr (2, [.int n_nodes, .ref n_kind, .ref n_pay, .ref n_name, .ref n_ways, .ref n_held, .ref n_targets, .ref n_weights])), (n_kind, .inl (g 0, 12, .inl n_fkind)), (n_pay, .inl (g 0, 12, .inl n_fpay)), (n_ways, .inl (g 0, 12, .inl n_fways)), (n_held, .inl (g 0, 12, .inl n_fheld)), (n_targets, .inl (g 0, 36, .inl n_ftargets)), (vs, .inr (10, [.ref vs_part, .long vsw])), (vs_part, .inl (g 1, 12, .inr (.inl vsp))), (sv_keep, .inl (g 0, 12, .inl okp_90880))] H := hP
  have hD : va_D A [(sv, .inr (6, [.ref n, .ref co, .ref sv_keep, .ref sv_scaled])), (n, .inr (2, [.int n_nodes, .ref n_kind, .ref n_pay, .ref n_name, .ref n_ways, .ref n_held, .ref n_targets, .ref n_weights])), (n_kind, .inl (g 0, 12, .inl n_fkind)), (n_pay, .inl (g 0, 12, .inl n_fpay)), (n_ways, .inl (g 0, 12, .inl n_fways)), (n_held, .inl (g 0, 12, .inl n_fheld)), (n_targets, .inl (g 0, 36, .inl n_ftargets)), (vs, .inr (10, [.ref vs_part, .long vsw])), (vs_part, .inl (g 1, 12, .inr (.inl vsp))), (sv_keep, .inl (g 0, 12, .inl okp_90880))] := hD
  have hP9 := hP.sub (ws' := [(sv, .inr (6, [.ref n, .ref co, .ref sv_keep, .ref sv_scaled])), (n, .inr (2, [.int n_nodes, .ref n_kind, .ref n_pay, .ref n_name, .ref n_ways, .ref n_held, .ref n_targets, .ref n_weights])), (n_kind, .inl (g 0, 12, .inl n_fkind)), (n_pay, .inl (g 0, 12, .inl n_fpay)), (n_ways, .inl (g 0, 12, .inl n_fways)), (n_held, .inl (g 0, 12, .inl n_fheld)), (n_targets, .inl (g 0, 36, .inl n_ftargets)), (vs, .inr (10, [.ref vs_part, .long vsw])), (vs_part, .inl (g 1, 12, .inr (.inl vsp))), (sv_keep, .inl (g 0, 12, .inl okp_90880))]) [0, 1, 2, 3, 4, 5, 6, 7, 8, 9] rfl
  have hD9 := hD.sub (ws' := [(sv, .inr (6, [.ref n, .ref co, .ref sv_keep, .ref sv_scaled])), (n, .inr (2, [.int n_nodes, .ref n_kind, .ref n_pay, .ref n_name, .ref n_ways, .ref n_held, .ref n_targets, .ref n_weights])), (n_kind, .inl (g 0, 12, .inl n_fkind)), (n_pay, .inl (g 0, 12, .inl n_fpay)), (n_ways, .inl (g 0, 12, .inl n_fways)), (n_held, .inl (g 0, 12, .inl n_fheld)), (n_targets, .inl (g 0, 36, .inl n_ftargets)), (vs, .inr (10, [.ref vs_part, .long vsw])), (vs_part, .inl (g 1, 12, .inr (.inl vsp))), (sv_keep, .inl (g 0, 12, .inl okp_90880))]) [0, 1, 2, 3, 4, 5, 6, 7, 8, 9] (by decide) rfl
  exact W.iret (v := r_90879) hx hb hr (fun t ht hW => ⟨⟨r_90879, (), rfl, trivial, okp_90880, by rw [ht]; exact hP9, hD9⟩, hS.F ht⟩) hS.2.2 dX6_goodWays_11
set_option maxHeartbeats 4000000 in
set_option maxRecDepth 100000 in
theorem c_X6_findBest (l : Launch) (D : va_G) (g : Nat → ClassId) (sz : Nat) (sv : Nat) (vs : Nat) (pl : Nat) (n : Nat) (co : Nat) (sv_keep : Nat) (sv_scaled : Nat) (n_nodes : Int32) (n_kind : Nat) (n_pay : Nat) (n_name : Nat) (n_ways : Nat) (n_held : Nat) (n_targets : Nat) (n_weights : Nat) (n_fkind : Nat → Int32) (n_fpay : Nat → Int32) (n_fways : Nat → Int32) (n_fheld : Nat → Int32) (n_ftargets : Nat → Int32) (vs_part : Nat) (vsw : Int64) (vsp : Nat → Int64) (kpf : Nat → Int32) (plf : Nat → Int32) (h_n_nodes : 0 ≤ (n_nodes : Int32).toInt ∧ (n_nodes : Int32).toInt ≤ 12) (h_n_fkind : ∀ j : Nat, 0 ≤ (n_fkind j).toInt ∧ (n_fkind j).toInt ≤ 3) (h_n_fways : ∀ j : Nat, 0 ≤ (n_fways j).toInt ∧ (n_fways j).toInt ≤ 3) (h_n_fheld : ∀ j : Nat, (-1) ≤ (n_fheld j).toInt ∧ (n_fheld j).toInt ≤ 2) (h_n_ftargets : ∀ j : Nat, 0 ≤ (n_ftargets j).toInt ∧ (n_ftargets j).toInt ≤ 11) (h_plf : ∀ j : Nat, 0 ≤ (plf j).toInt ∧ (plf j).toInt ≤ 2) : Met l yX6_findBest (.code yX6_findBest cX6_findBest 4 none :: wsL_law) ({ frames := 4, cells := 0, slots := 0, locals := 100 }) (va_Pc [.ref sv, .ref vs, .ref pl] (fun U => U.heap.size = sz ∧ va_P D vwCl [(sv, .inr (6, [.ref n, .ref co, .ref sv_keep, .ref sv_scaled])), (n, .inr (2, [.int n_nodes, .ref n_kind, .ref n_pay, .ref n_name, .ref n_ways, .ref n_held, .ref n_targets, .ref n_weights])), (n_kind, .inl (g 0, 12, .inl n_fkind)), (n_pay, .inl (g 0, 12, .inl n_fpay)), (n_ways, .inl (g 0, 12, .inl n_fways)), (n_held, .inl (g 0, 12, .inl n_fheld)), (n_targets, .inl (g 0, 36, .inl n_ftargets)), (vs, .inr (10, [.ref vs_part, .long vsw])), (vs_part, .inl (g 1, 12, .inr (.inl vsp))), (sv_keep, .inl (g 0, 12, .inl kpf)), (pl, .inl (g 0, 12, .inl plf))] U.heap ∧ va_K D vwCl (TY g) U ∧ va_D (fun _ => True) [(sv, .inr (6, [.ref n, .ref co, .ref sv_keep, .ref sv_scaled])), (n, .inr (2, [.int n_nodes, .ref n_kind, .ref n_pay, .ref n_name, .ref n_ways, .ref n_held, .ref n_targets, .ref n_weights])), (n_kind, .inl (g 0, 12, .inl n_fkind)), (n_pay, .inl (g 0, 12, .inl n_fpay)), (n_ways, .inl (g 0, 12, .inl n_fways)), (n_held, .inl (g 0, 12, .inl n_fheld)), (n_targets, .inl (g 0, 36, .inl n_ftargets)), (vs, .inr (10, [.ref vs_part, .long vsw])), (vs_part, .inl (g 1, 12, .inr (.inl vsp))), (sv_keep, .inl (g 0, 12, .inl kpf)), (pl, .inl (g 0, 12, .inl plf))])) (va_Qv (fun (_ : Unit) => True) (fun _ t => ∃ okp : Nat → Int32, ∃ opl : Nat → Int32, (∀ j : Nat, 0 ≤ (opl j).toInt ∧ (opl j).toInt ≤ 2) ∧ va_P D vwCl [(sv, .inr (6, [.ref n, .ref co, .ref sv_keep, .ref sv_scaled])), (n, .inr (2, [.int n_nodes, .ref n_kind, .ref n_pay, .ref n_name, .ref n_ways, .ref n_held, .ref n_targets, .ref n_weights])), (n_kind, .inl (g 0, 12, .inl n_fkind)), (n_pay, .inl (g 0, 12, .inl n_fpay)), (n_ways, .inl (g 0, 12, .inl n_fways)), (n_held, .inl (g 0, 12, .inl n_fheld)), (n_targets, .inl (g 0, 36, .inl n_ftargets)), (vs, .inr (10, [.ref vs_part, .long vsw])), (vs_part, .inl (g 1, 12, .inr (.inl vsp))), (sv_keep, .inl (g 0, 12, .inl okp)), (pl, .inl (g 0, 12, .inl opl))] t.heap ∧ va_D (va_A [(sv, .inr (6, [.ref n, .ref co, .ref sv_keep, .ref sv_scaled])), (n, .inr (2, [.int n_nodes, .ref n_kind, .ref n_pay, .ref n_name, .ref n_ways, .ref n_held, .ref n_targets, .ref n_weights])), (n_kind, .inl (g 0, 12, .inl n_fkind)), (n_pay, .inl (g 0, 12, .inl n_fpay)), (n_ways, .inl (g 0, 12, .inl n_fways)), (n_held, .inl (g 0, 12, .inl n_fheld)), (n_targets, .inl (g 0, 36, .inl n_ftargets)), (vs, .inr (10, [.ref vs_part, .long vsw])), (vs_part, .inl (g 1, 12, .inr (.inl vsp))), (sv_keep, .inl (g 0, 12, .inl kpf)), (pl, .inl (g 0, 12, .inl plf))] sz) [(sv, .inr (6, [.ref n, .ref co, .ref sv_keep, .ref sv_scaled])), (n, .inr (2, [.int n_nodes, .ref n_kind, .ref n_pay, .ref n_name, .ref n_ways, .ref n_held, .ref n_targets, .ref n_weights])), (n_kind, .inl (g 0, 12, .inl n_fkind)), (n_pay, .inl (g 0, 12, .inl n_fpay)), (n_ways, .inl (g 0, 12, .inl n_fways)), (n_held, .inl (g 0, 12, .inl n_fheld)), (n_targets, .inl (g 0, 36, .inl n_ftargets)), (vs, .inr (10, [.ref vs_part, .long vsw])), (vs_part, .inl (g 1, 12, .inr (.inl vsp))), (sv_keep, .inl (g 0, 12, .inl okp)), (pl, .inl (g 0, 12, .inl opl))]) (va_A [(sv, .inr (6, [.ref n, .ref co, .ref sv_keep, .ref sv_scaled])), (n, .inr (2, [.int n_nodes, .ref n_kind, .ref n_pay, .ref n_name, .ref n_ways, .ref n_held, .ref n_targets, .ref n_weights])), (n_kind, .inl (g 0, 12, .inl n_fkind)), (n_pay, .inl (g 0, 12, .inl n_fpay)), (n_ways, .inl (g 0, 12, .inl n_fways)), (n_held, .inl (g 0, 12, .inl n_fheld)), (n_targets, .inl (g 0, 36, .inl n_ftargets)), (vs, .inr (10, [.ref vs_part, .long vsw])), (vs_part, .inl (g 1, 12, .inr (.inl vsp))), (sv_keep, .inl (g 0, 12, .inl kpf)), (pl, .inl (g 0, 12, .inl plf))] sz)) 0 0 (va_A [(sv, .inr (6, [.ref n, .ref co, .ref sv_keep, .ref sv_scaled])), (n, .inr (2, [.int n_nodes, .ref n_kind, .ref n_pay, .ref n_name, .ref n_ways, .ref n_held, .ref n_targets, .ref n_weights])), (n_kind, .inl (g 0, 12, .inl n_fkind)), (n_pay, .inl (g 0, 12, .inl n_fpay)), (n_ways, .inl (g 0, 12, .inl n_fways)), (n_held, .inl (g 0, 12, .inl n_fheld)), (n_targets, .inl (g 0, 36, .inl n_ftargets)), (vs, .inr (10, [.ref vs_part, .long vsw])), (vs_part, .inl (g 1, 12, .inr (.inl vsp))), (sv_keep, .inl (g 0, 12, .inl kpf)), (pl, .inl (g 0, 12, .inl plf))] sz) := by
  refine Met.ofW (cc := cX6_findBest) (maxL := 4) (ret := none) (by decide) rfl ?_
  intro p e s m args below meth c s₁ B hml hv
  obtain ⟨ha, hsz, hP, hK, hD0⟩ := hv
  have hx := B.exec
  have hb := B.bytes
  have hr := B.returns
  have hts0 := atoms_spec (ws := (.code yX6_findBest cX6_findBest 4 none :: wsL_law)) B.pre
  have hts : ∀ w ∈ wsL_law, w.before args s = true := fun w h => hts0 w (List.mem_cons_of_mem _ h)
  have hown : s.vm.findClass RX6 = some m.cls := findClass_of_methodNamed B.named
  have hlocks := B.notSynchronized
  subst hsz
  have hD := hD0.self (sz := s.heap.size)
  generalize hAe : va_A [(sv, .inr (6, [.ref n, .ref co, .ref sv_keep, .ref sv_scaled])), (n, .inr (2, [.int n_nodes, .ref n_kind, .ref n_pay, .ref n_name, .ref n_ways, .ref n_held, .ref n_targets, .ref n_weights])), (n_kind, .inl (g 0, 12, .inl n_fkind)), (n_pay, .inl (g 0, 12, .inl n_fpay)), (n_ways, .inl (g 0, 12, .inl n_fways)), (n_held, .inl (g 0, 12, .inl n_fheld)), (n_targets, .inl (g 0, 36, .inl n_ftargets)), (vs, .inr (10, [.ref vs_part, .long vsw])), (vs_part, .inl (g 1, 12, .inr (.inl vsp))), (sv_keep, .inl (g 0, 12, .inl kpf)), (pl, .inl (g 0, 12, .inl plf))] s.heap.size = A at hD ⊢
  have hA : ∀ q : Nat, s.heap.size ≤ q → A q := fun q h => by rw [← hAe]; exact Or.inr h
  have hS : va_S A s.heap s.heap [] := va_S.rf
  have hP : va_P D vwCl [(sv, .inr (6, [.ref n, .ref co, .ref sv_keep, .ref sv_scaled])), (n, .inr (2, [.int n_nodes, .ref n_kind, .ref n_pay, .ref n_name, .ref n_ways, .ref n_held, .ref n_targets, .ref n_weights])), (n_kind, .inl (g 0, 12, .inl n_fkind)), (n_pay, .inl (g 0, 12, .inl n_fpay)), (n_ways, .inl (g 0, 12, .inl n_fways)), (n_held, .inl (g 0, 12, .inl n_fheld)), (n_targets, .inl (g 0, 36, .inl n_ftargets)), (vs, .inr (10, [.ref vs_part, .long vsw])), (vs_part, .inl (g 1, 12, .inr (.inl vsp))), (sv_keep, .inl (g 0, 12, .inl kpf)), (pl, .inl (g 0, 12, .inl plf))] s.heap := hP
  refine W.eq (g2 := entryFrame m ([.ref sv, .ref vs, .ref pl] : List Value).toArray 4) (by rw [ha]) ?_
  have hl := lv_entry ([.ref sv, .ref vs, .ref pl]) (n := 4) (Nat.le_of_ble_eq_true rfl)
  rw [lg_entry_eq]
  generalize (lg_sl ([.ref sv, .ref vs, .ref pl]) ++ List.replicate (4 - (lg_sl ([.ref sv, .ref vs, .ref pl])).length) Slot.unset).toArray = ls at hl ⊢
  have hl : lv_has ls 4 [(0, .ref sv), (1, .ref vs), (2, .ref pl)] := hl
  refine lv_aload_n hx hb dX6_findBest_0 rfl (lv_at hl 0 rfl) ?_
  refine lv_aload_n hx hb dX6_findBest_1 rfl (lv_at hl 1 rfl) ?_
  have hPc := hP.sub (ws' := [(sv, .inr (6, [.ref n, .ref co, .ref sv_keep, .ref sv_scaled])), (n, .inr (2, [.int n_nodes, .ref n_kind, .ref n_pay, .ref n_name, .ref n_ways, .ref n_held, .ref n_targets, .ref n_weights])), (n_kind, .inl (g 0, 12, .inl n_fkind)), (n_pay, .inl (g 0, 12, .inl n_fpay)), (n_ways, .inl (g 0, 12, .inl n_fways)), (n_held, .inl (g 0, 12, .inl n_fheld)), (n_targets, .inl (g 0, 36, .inl n_ftargets)), (vs, .inr (10, [.ref vs_part, .long vsw])), (vs_part, .inl (g 1, 12, .inr (.inl vsp))), (sv_keep, .inl (g 0, 12, .inl kpf))]) [0, 1, 2, 3, 4, 5, 6, 7, 8, 9] rfl
  have hDc := hD.sub (ws' := [(sv, .inr (6, [.ref n, .ref co, .ref sv_keep, .ref sv_scaled])), (n, .inr (2, [.int n_nodes, .ref n_kind, .ref n_pay, .ref n_name, .ref n_ways, .ref n_held, .ref n_targets, .ref n_weights])), (n_kind, .inl (g 0, 12, .inl n_fkind)), (n_pay, .inl (g 0, 12, .inl n_fpay)), (n_ways, .inl (g 0, 12, .inl n_fways)), (n_held, .inl (g 0, 12, .inl n_fheld)), (n_targets, .inl (g 0, 36, .inl n_ftargets)), (vs, .inr (10, [.ref vs_part, .long vsw])), (vs_part, .inl (g 1, 12, .inr (.inl vsp))), (sv_keep, .inl (g 0, 12, .inl kpf))]) [0, 1, 2, 3, 4, 5, 6, 7, 8, 9] (by decide) rfl
  have hFc := va_free (wc := [(sv, .inr (6, [.ref n, .ref co, .ref sv_keep, .ref sv_scaled])), (n, .inr (2, [.int n_nodes, .ref n_kind, .ref n_pay, .ref n_name, .ref n_ways, .ref n_held, .ref n_targets, .ref n_weights])), (n_kind, .inl (g 0, 12, .inl n_fkind)), (n_pay, .inl (g 0, 12, .inl n_fpay)), (n_ways, .inl (g 0, 12, .inl n_fways)), (n_held, .inl (g 0, 12, .inl n_fheld)), (n_targets, .inl (g 0, 36, .inl n_ftargets)), (vs, .inr (10, [.ref vs_part, .long vsw])), (vs_part, .inl (g 1, 12, .inr (.inl vsp))), (sv_keep, .inl (g 0, 12, .inl kpf))]) hD hS hA [0, 1, 2, 3, 4, 5, 6, 7, 8, 9] rfl
  refine va_callv (va_runV (As := [.ref vs]) (rest := []) ⟨hx, hb, hml, hown, hts⟩ (c_X6_keepEven l D g s.heap.size sv vs n co sv_keep sv_scaled n_nodes n_kind n_pay n_name n_ways n_held n_targets n_weights n_fkind n_fpay n_fways n_fheld n_ftargets vs_part vsw vsp kpf (tr_w h_n_nodes (by decide) (by decide)) (tr_wa h_n_fkind (by decide) (by decide)) (tr_wa h_n_fways (by decide) (by decide)) (tr_wa h_n_fheld (by decide) (by decide)) (tr_wa h_n_ftargets (by decide) (by decide))) (cwV 1 hts (tz_gV qw_597 qw_598 qw_599 qw_558 qw_600) rfl rfl rfl (by decide +kernel) ⟨Nat.le_of_ble_eq_true rfl, Nat.le_of_ble_eq_true rfl⟩) ⟨tz_blQ, va_recv hK hPc (ci := 6) (q0 := 0) rfl rfl, tz_preQ hPc hK hDc⟩ rfl rfl hl.1 rfl (lv_room (Nat.le_of_ble_eq_true rfl)) dX6_findBest_2 ⟨Nat.le_of_ble_eq_true rfl, Nat.le_of_ble_eq_true rfl⟩) hS (fun q _ h => hFc q h) hFc (fun u t H1 locs ht hvm hw hB hz1 hk1 hS => ?_)
  obtain ⟨okp_90882, hP1, hD1⟩ := hB
  rw [ht] at hP1
  obtain ⟨hP, hD⟩ := va_join (wr := [(pl, .inl (g 0, 12, .inl plf))]) (w1 := [(sv, .inr (6, [.ref n, .ref co, .ref sv_keep, .ref sv_scaled])), (n, .inr (2, [.int n_nodes, .ref n_kind, .ref n_pay, .ref n_name, .ref n_ways, .ref n_held, .ref n_targets, .ref n_weights])), (n_kind, .inl (g 0, 12, .inl n_fkind)), (n_pay, .inl (g 0, 12, .inl n_fpay)), (n_ways, .inl (g 0, 12, .inl n_fways)), (n_held, .inl (g 0, 12, .inl n_fheld)), (n_targets, .inl (g 0, 36, .inl n_ftargets)), (vs, .inr (10, [.ref vs_part, .long vsw])), (vs_part, .inl (g 1, 12, .inr (.inl vsp))), (sv_keep, .inl (g 0, 12, .inl okp_90882))]) hP hD [0, 1, 2, 3, 4, 5, 6, 7, 8, 9] [10] rfl rfl (by decide) (by decide) hk1 hFc hP1 hD1
  generalize H1 = H at hP hS ⊢
  have hP : va_P D vwCl [(pl, .inl (g 0, 12, .inl plf)), (sv, .inr (6, [.ref n, .ref co, .ref sv_keep, .ref sv_scaled])), (n, .inr (2, [.int n_nodes, .ref n_kind, .ref n_pay, .ref n_name, .ref n_ways, .ref n_held, .ref n_targets, .ref n_weights])), (n_kind, .inl (g 0, 12, .inl n_fkind)), (n_pay, .inl (g 0, 12, .inl n_fpay)), (n_ways, .inl (g 0, 12, .inl n_fways)), (n_held, .inl (g 0, 12, .inl n_fheld)), (n_targets, .inl (g 0, 36, .inl n_ftargets)), (vs, .inr (10, [.ref vs_part, .long vsw])), (vs_part, .inl (g 1, 12, .inr (.inl vsp))), (sv_keep, .inl (g 0, 12, .inl okp_90882))] H := hP
  have hD : va_D A [(pl, .inl (g 0, 12, .inl plf)), (sv, .inr (6, [.ref n, .ref co, .ref sv_keep, .ref sv_scaled])), (n, .inr (2, [.int n_nodes, .ref n_kind, .ref n_pay, .ref n_name, .ref n_ways, .ref n_held, .ref n_targets, .ref n_weights])), (n_kind, .inl (g 0, 12, .inl n_fkind)), (n_pay, .inl (g 0, 12, .inl n_fpay)), (n_ways, .inl (g 0, 12, .inl n_fways)), (n_held, .inl (g 0, 12, .inl n_fheld)), (n_targets, .inl (g 0, 36, .inl n_ftargets)), (vs, .inr (10, [.ref vs_part, .long vsw])), (vs_part, .inl (g 1, 12, .inr (.inl vsp))), (sv_keep, .inl (g 0, 12, .inl okp_90882))] := hD
  refine lv_iconst (v := 0) hx hb dX6_findBest_5 (by decide) ?_
  refine lv_istore_n (lv' := [(3, .int 0), (0, .ref sv), (1, .ref vs), (2, .ref pl)]) hx hb dX6_findBest_6 rfl hl (by decide) rfl (fun ls hl => ?_)
  have lp_91088 : ∀ (n_91088 : Nat) (x_91085 : Int32) (f_91086 : Nat → Int32) (f_91087 : Nat → Int32) (H : Heap) (locs : List Loc) (ls : Array Slot), (0 ≤ (x_91085 : Int32).toInt ∧ (x_91085 : Int32).toInt ≤ 12) → (∀ j : Nat, 0 ≤ (f_91086 j).toInt ∧ (f_91086 j).toInt ≤ 2) → (12 - x_91085.toInt < (n_91088 : Int)) → va_P D vwCl [(pl, .inl (g 0, 12, .inl f_91086)), (sv, .inr (6, [.ref n, .ref co, .ref sv_keep, .ref sv_scaled])), (n, .inr (2, [.int n_nodes, .ref n_kind, .ref n_pay, .ref n_name, .ref n_ways, .ref n_held, .ref n_targets, .ref n_weights])), (n_kind, .inl (g 0, 12, .inl n_fkind)), (n_pay, .inl (g 0, 12, .inl n_fpay)), (n_ways, .inl (g 0, 12, .inl n_fways)), (n_held, .inl (g 0, 12, .inl n_fheld)), (n_targets, .inl (g 0, 36, .inl n_ftargets)), (vs, .inr (10, [.ref vs_part, .long vsw])), (vs_part, .inl (g 1, 12, .inr (.inl vsp))), (sv_keep, .inl (g 0, 12, .inl f_91087))] H → va_D A [(pl, .inl (g 0, 12, .inl f_91086)), (sv, .inr (6, [.ref n, .ref co, .ref sv_keep, .ref sv_scaled])), (n, .inr (2, [.int n_nodes, .ref n_kind, .ref n_pay, .ref n_name, .ref n_ways, .ref n_held, .ref n_targets, .ref n_weights])), (n_kind, .inl (g 0, 12, .inl n_fkind)), (n_pay, .inl (g 0, 12, .inl n_fpay)), (n_ways, .inl (g 0, 12, .inl n_fways)), (n_held, .inl (g 0, 12, .inl n_fheld)), (n_targets, .inl (g 0, 36, .inl n_ftargets)), (vs, .inr (10, [.ref vs_part, .long vsw])), (vs_part, .inl (g 1, 12, .inr (.inl vsp))), (sv_keep, .inl (g 0, 12, .inl f_91087))] → va_S A s.heap H locs → lv_has ls 4 [(3, .int x_91085), (0, .ref sv), (1, .ref vs), (2, .ref pl)] → W p l e (headSpec (.code yX6_findBest cX6_findBest 4 none :: wsL_law) ({ frames := 4, cells := 0, slots := 0, locals := 100 })).room s m args below meth c H locs 0 0 (MQ below (va_Qv (fun (_ : Unit) => True) (fun _ t => ∃ okp : Nat → Int32, ∃ opl : Nat → Int32, (∀ j : Nat, 0 ≤ (opl j).toInt ∧ (opl j).toInt ≤ 2) ∧ va_P D vwCl [(sv, .inr (6, [.ref n, .ref co, .ref sv_keep, .ref sv_scaled])), (n, .inr (2, [.int n_nodes, .ref n_kind, .ref n_pay, .ref n_name, .ref n_ways, .ref n_held, .ref n_targets, .ref n_weights])), (n_kind, .inl (g 0, 12, .inl n_fkind)), (n_pay, .inl (g 0, 12, .inl n_fpay)), (n_ways, .inl (g 0, 12, .inl n_fways)), (n_held, .inl (g 0, 12, .inl n_fheld)), (n_targets, .inl (g 0, 36, .inl n_ftargets)), (vs, .inr (10, [.ref vs_part, .long vsw])), (vs_part, .inl (g 1, 12, .inr (.inl vsp))), (sv_keep, .inl (g 0, 12, .inl okp)), (pl, .inl (g 0, 12, .inl opl))] t.heap ∧ va_D A [(sv, .inr (6, [.ref n, .ref co, .ref sv_keep, .ref sv_scaled])), (n, .inr (2, [.int n_nodes, .ref n_kind, .ref n_pay, .ref n_name, .ref n_ways, .ref n_held, .ref n_targets, .ref n_weights])), (n_kind, .inl (g 0, 12, .inl n_fkind)), (n_pay, .inl (g 0, 12, .inl n_fpay)), (n_ways, .inl (g 0, 12, .inl n_fways)), (n_held, .inl (g 0, 12, .inl n_fheld)), (n_targets, .inl (g 0, 36, .inl n_ftargets)), (vs, .inr (10, [.ref vs_part, .long vsw])), (vs_part, .inl (g 1, 12, .inr (.inl vsp))), (sv_keep, .inl (g 0, 12, .inl okp)), (pl, .inl (g 0, 12, .inl opl))]) A) args s 0 0 A) (F0 m 7 ls []) := by
    intro n_91088
    induction n_91088 with
    | zero =>
      intro x_91085 f_91086 f_91087 H locs ls h_x_91085 h_f_91086 hm_91088 hP hD hS hl
      exfalso; omega
    | succ n_91088 ih_91088 =>
      intro x_91085 f_91086 f_91087 H locs ls h_x_91085 h_f_91086 hm_91088 hP hD hS hl
      refine lv_iload_n hx hb dX6_findBest_7 rfl (lv_at hl 0 rfl) ?_
      refine lv_aload_n hx hb dX6_findBest_8 rfl (lv_at hl 1 rfl) ?_
      refine va_get (D := D) (ci := 6) (v := .ref n) (C := RX6) (T := TX6) (N := 4) hx hb hts inlX6 hown hK hP 1 rfl rfl 0 (by decide) (hts (Cond.fieldLink RX6 19 "ChanceRings$Solver" "net" "LChanceRings$Net;") qw_548) (fun _ h9 => h9) rfl dX6_findBest_9 ?_
      refine va_get (D := D) (ci := 2) (v := .int n_nodes) (C := RX2) (T := TX2) (N := 8) hx hb hts inlX2 hown hK hP 2 rfl rfl 0 (by decide) (hts (Cond.fieldLink RX6 32 "ChanceRings$Net" "nodes" "I") qw_549) (fun _ h9 => h9) rfl dX6_findBest_12 ?_
      refine lv_icmp_ge (tgt := 88) hx hb dX6_findBest_15 (by decide) (fun c_91089 => ?_) (fun c_91089 => ?_)
      · skip
        have hP9 := hP.sub (ws' := [(sv, .inr (6, [.ref n, .ref co, .ref sv_keep, .ref sv_scaled])), (n, .inr (2, [.int n_nodes, .ref n_kind, .ref n_pay, .ref n_name, .ref n_ways, .ref n_held, .ref n_targets, .ref n_weights])), (n_kind, .inl (g 0, 12, .inl n_fkind)), (n_pay, .inl (g 0, 12, .inl n_fpay)), (n_ways, .inl (g 0, 12, .inl n_fways)), (n_held, .inl (g 0, 12, .inl n_fheld)), (n_targets, .inl (g 0, 36, .inl n_ftargets)), (vs, .inr (10, [.ref vs_part, .long vsw])), (vs_part, .inl (g 1, 12, .inr (.inl vsp))), (sv_keep, .inl (g 0, 12, .inl f_91087)), (pl, .inl (g 0, 12, .inl f_91086))]) [1, 2, 3, 4, 5, 6, 7, 8, 9, 10, 0] rfl
        have hD9 := hD.sub (ws' := [(sv, .inr (6, [.ref n, .ref co, .ref sv_keep, .ref sv_scaled])), (n, .inr (2, [.int n_nodes, .ref n_kind, .ref n_pay, .ref n_name, .ref n_ways, .ref n_held, .ref n_targets, .ref n_weights])), (n_kind, .inl (g 0, 12, .inl n_fkind)), (n_pay, .inl (g 0, 12, .inl n_fpay)), (n_ways, .inl (g 0, 12, .inl n_fways)), (n_held, .inl (g 0, 12, .inl n_fheld)), (n_targets, .inl (g 0, 36, .inl n_ftargets)), (vs, .inr (10, [.ref vs_part, .long vsw])), (vs_part, .inl (g 1, 12, .inr (.inl vsp))), (sv_keep, .inl (g 0, 12, .inl f_91087)), (pl, .inl (g 0, 12, .inl f_91086))]) [1, 2, 3, 4, 5, 6, 7, 8, 9, 10, 0] (by decide) rfl
        exact W.vret hx hb hr (fun t ht hW => ⟨⟨(), rfl, trivial, f_91087, f_91086, (tr_wa h_f_91086 (by decide) (by decide)), by rw [ht]; exact hP9, hD9⟩, hS.F ht⟩) hS.2.2 dX6_findBest_88
      · skip
        have c_91089_i := Int32.lt_iff_toInt_lt.mp (Int32.not_le.mp c_91089)
        have h_91090 : 0 ≤ (x_91085 : Int32).toInt ∧ (x_91085 : Int32).toInt ≤ 11 := nr_lt_l h_x_91085 h_n_nodes c_91089_i (by decide) (by decide)
        have h_91091 : 1 ≤ (n_nodes : Int32).toInt ∧ (n_nodes : Int32).toInt ≤ 12 := nr_lt_r h_x_91085 h_n_nodes c_91089_i (by decide) (by decide)
        refine lv_aload_n hx hb dX6_findBest_18 rfl (lv_at hl 1 rfl) ?_
        refine va_get (D := D) (ci := 6) (v := .ref n) (C := RX6) (T := TX6) (N := 4) hx hb hts inlX6 hown hK hP 1 rfl rfl 0 (by decide) (hts (Cond.fieldLink RX6 19 "ChanceRings$Solver" "net" "LChanceRings$Net;") qw_548) (fun _ h9 => h9) rfl dX6_findBest_19 ?_
        refine va_get (D := D) (ci := 2) (v := .ref n_kind) (C := RX2) (T := TX2) (N := 8) hx hb hts inlX2 hown hK hP 2 rfl rfl 1 (by decide) (hts (Cond.fieldLink RX6 61 "ChanceRings$Net" "kind" "[I") qw_551) (fun _ h9 => h9) rfl dX6_findBest_22 ?_
        refine lv_iload_n hx hb dX6_findBest_25 rfl (lv_at hl 0 rfl) ?_
        refine va_iald hx hb hK hP 3 0 rfl rfl (tr_in h_91090 (by decide) (by decide)) dX6_findBest_26 ?_
        refine lv_topi (fun v_91092 v_91092_e => ?_)
        have h_v_91092 : 0 ≤ (v_91092 : Int32).toInt ∧ (v_91092 : Int32).toInt ≤ 3 := by rw [v_91092_e]; exact h_n_fkind _
        refine lv_iconst (v := 2) hx hb dX6_findBest_27 (by decide) ?_
        refine lv_icmp_ne (tgt := 46) hx hb dX6_findBest_28 (by decide) (fun c_91093 => ?_) (fun c_91093 => ?_)
        · skip
          refine lv_aload_n hx hb dX6_findBest_46 rfl (lv_at hl 1 rfl) ?_
          refine va_get (D := D) (ci := 6) (v := .ref n) (C := RX6) (T := TX6) (N := 4) hx hb hts inlX6 hown hK hP 1 rfl rfl 0 (by decide) (hts (Cond.fieldLink RX6 19 "ChanceRings$Solver" "net" "LChanceRings$Net;") qw_548) (fun _ h9 => h9) rfl dX6_findBest_47 ?_
          refine va_get (D := D) (ci := 2) (v := .ref n_kind) (C := RX2) (T := TX2) (N := 8) hx hb hts inlX2 hown hK hP 2 rfl rfl 1 (by decide) (hts (Cond.fieldLink RX6 61 "ChanceRings$Net" "kind" "[I") qw_551) (fun _ h9 => h9) rfl dX6_findBest_50 ?_
          refine lv_iload_n hx hb dX6_findBest_53 rfl (lv_at hl 0 rfl) ?_
          refine va_iald hx hb hK hP 3 0 rfl rfl (tr_in h_91090 (by decide) (by decide)) dX6_findBest_54 ?_
          refine tz_i (y := v_91092) v_91092_e.symm ?_
          refine lv_iconst (v := 1) hx hb dX6_findBest_55 (by decide) ?_
          refine lv_icmp_ne (tgt := 82) hx hb dX6_findBest_56 (by decide) (fun c_91095 => ?_) (fun c_91095 => ?_)
          · skip
            obtain ⟨v_91097, v_91097_e⟩ : ∃ y : Int32, y = x_91085 + Int32.ofInt 1 := ⟨_, rfl⟩
            have h_v_91097 : 1 ≤ (v_91097 : Int32).toInt ∧ (v_91097 : Int32).toInt ≤ 12 := by rw [v_91097_e]; exact tr_add h_91090 (⟨by decide, by decide⟩ : 1 ≤ (Int32.ofInt 1 : Int32).toInt ∧ (Int32.ofInt 1 : Int32).toInt ≤ 1) (by decide) (by decide) (by decide) (by decide)
            have q_v_91097 : v_91097.toInt = x_91085.toInt + 1 := by rw [v_91097_e]; exact tr_addE h_91090 (⟨by decide, by decide⟩ : 1 ≤ (Int32.ofInt 1 : Int32).toInt ∧ (Int32.ofInt 1 : Int32).toInt ≤ 1) (by decide) (by decide)
            refine lv_iinc (v := v_91097) (lv' := [(3, .int v_91097), (0, .ref sv), (1, .ref vs), (2, .ref pl)]) hx hb dX6_findBest_82 hl (k := 0) rfl v_91097_e.symm (by decide) rfl (fun ls hl => ?_)
            refine lv_goto (tgt := 7) hx hb dX6_findBest_85 (by decide) ?_
            exact ih_91088 v_91097 f_91086 f_91087 H _ ls (tr_w h_v_91097 (by decide) (by decide)) (tr_wa h_f_91086 (by decide) (by decide)) (by omega) (hP.sub [0, 1, 2, 3, 4, 5, 6, 7, 8, 9, 10] rfl) (hD.sub [0, 1, 2, 3, 4, 5, 6, 7, 8, 9, 10] (by decide) rfl) hS (lv_sub hl [0, 1, 2, 3] rfl)
          · skip
            have c_91095_i : (v_91092 : Int32).toInt = (1 : Int32).toInt := congrArg Int32.toInt c_91095
            have h_91096 : 1 ≤ (v_91092 : Int32).toInt ∧ (v_91092 : Int32).toInt ≤ 1 := nr_eq_l h_v_91092 (⟨by decide, by decide⟩ : 1 ≤ (1 : Int32).toInt ∧ (1 : Int32).toInt ≤ 1) c_91095_i (by decide) (by decide)
            refine lv_aload_n hx hb dX6_findBest_59 rfl (lv_at hl 3 rfl) ?_
            refine lv_iload_n hx hb dX6_findBest_60 rfl (lv_at hl 0 rfl) ?_
            refine lv_aload_n hx hb dX6_findBest_61 rfl (lv_at hl 1 rfl) ?_
            refine lv_iload_n hx hb dX6_findBest_62 rfl (lv_at hl 0 rfl) ?_
            refine lv_aload_n hx hb dX6_findBest_63 rfl (lv_at hl 2 rfl) ?_
            have hPc := hP.sub (ws' := [(sv, .inr (6, [.ref n, .ref co, .ref sv_keep, .ref sv_scaled])), (n, .inr (2, [.int n_nodes, .ref n_kind, .ref n_pay, .ref n_name, .ref n_ways, .ref n_held, .ref n_targets, .ref n_weights])), (n_kind, .inl (g 0, 12, .inl n_fkind)), (n_pay, .inl (g 0, 12, .inl n_fpay)), (n_ways, .inl (g 0, 12, .inl n_fways)), (n_held, .inl (g 0, 12, .inl n_fheld)), (n_targets, .inl (g 0, 36, .inl n_ftargets)), (vs, .inr (10, [.ref vs_part, .long vsw])), (vs_part, .inl (g 1, 12, .inr (.inl vsp))), (sv_keep, .inl (g 0, 12, .inl f_91087))]) [1, 2, 3, 4, 5, 6, 7, 8, 9, 10] rfl
            have hDc := hD.sub (ws' := [(sv, .inr (6, [.ref n, .ref co, .ref sv_keep, .ref sv_scaled])), (n, .inr (2, [.int n_nodes, .ref n_kind, .ref n_pay, .ref n_name, .ref n_ways, .ref n_held, .ref n_targets, .ref n_weights])), (n_kind, .inl (g 0, 12, .inl n_fkind)), (n_pay, .inl (g 0, 12, .inl n_fpay)), (n_ways, .inl (g 0, 12, .inl n_fways)), (n_held, .inl (g 0, 12, .inl n_fheld)), (n_targets, .inl (g 0, 36, .inl n_ftargets)), (vs, .inr (10, [.ref vs_part, .long vsw])), (vs_part, .inl (g 1, 12, .inr (.inl vsp))), (sv_keep, .inl (g 0, 12, .inl f_91087))]) [1, 2, 3, 4, 5, 6, 7, 8, 9, 10] (by decide) rfl
            have hFc := va_free (wc := [(sv, .inr (6, [.ref n, .ref co, .ref sv_keep, .ref sv_scaled])), (n, .inr (2, [.int n_nodes, .ref n_kind, .ref n_pay, .ref n_name, .ref n_ways, .ref n_held, .ref n_targets, .ref n_weights])), (n_kind, .inl (g 0, 12, .inl n_fkind)), (n_pay, .inl (g 0, 12, .inl n_fpay)), (n_ways, .inl (g 0, 12, .inl n_fways)), (n_held, .inl (g 0, 12, .inl n_fheld)), (n_targets, .inl (g 0, 36, .inl n_ftargets)), (vs, .inr (10, [.ref vs_part, .long vsw])), (vs_part, .inl (g 1, 12, .inr (.inl vsp))), (sv_keep, .inl (g 0, 12, .inl f_91087))]) hD hS hA [1, 2, 3, 4, 5, 6, 7, 8, 9, 10] rfl
            refine va_calli (va_runV (As := [.int x_91085, .ref vs]) (rest := [.int x_91085, .ref pl]) ⟨hx, hb, hml, hown, hts⟩ (c_X6_goodOf l D g H.size sv x_91085 vs n co sv_keep sv_scaled n_nodes n_kind n_pay n_name n_ways n_held n_targets n_weights n_fkind n_fpay n_fways n_fheld n_ftargets vs_part vsw vsp f_91087 (tr_w h_91090 (by decide) (by decide)) (tr_w h_91091 (by decide) (by decide)) (tr_wa h_n_fkind (by decide) (by decide)) (tr_wa h_n_fways (by decide) (by decide)) (tr_wa h_n_fheld (by decide) (by decide)) (tr_wa h_n_ftargets (by decide) (by decide))) (cwV 2 hts (tz_gV qw_601 qw_602 qw_603 qw_558 qw_604) rfl rfl rfl (by decide +kernel) ⟨Nat.le_of_ble_eq_true rfl, Nat.le_of_ble_eq_true rfl⟩) ⟨tz_blQ, va_recv hK hPc (ci := 6) (q0 := 0) rfl rfl, tz_preQ hPc hK hDc⟩ rfl rfl hl.1 rfl (lv_room (Nat.le_of_ble_eq_true rfl)) dX6_findBest_64 ⟨Nat.le_of_ble_eq_true rfl, Nat.le_of_ble_eq_true rfl⟩) hS (fun q _ h => hFc q h) hFc (fun r_91098 u t H1 locs ht hvm hw hB hz1 hk1 hS => ?_)
            obtain ⟨okp_91099, hP1, hD1⟩ := hB
            rw [ht] at hP1
            obtain ⟨hP, hD⟩ := va_join (wr := [(pl, .inl (g 0, 12, .inl f_91086))]) (w1 := [(sv, .inr (6, [.ref n, .ref co, .ref sv_keep, .ref sv_scaled])), (n, .inr (2, [.int n_nodes, .ref n_kind, .ref n_pay, .ref n_name, .ref n_ways, .ref n_held, .ref n_targets, .ref n_weights])), (n_kind, .inl (g 0, 12, .inl n_fkind)), (n_pay, .inl (g 0, 12, .inl n_fpay)), (n_ways, .inl (g 0, 12, .inl n_fways)), (n_held, .inl (g 0, 12, .inl n_fheld)), (n_targets, .inl (g 0, 36, .inl n_ftargets)), (vs, .inr (10, [.ref vs_part, .long vsw])), (vs_part, .inl (g 1, 12, .inr (.inl vsp))), (sv_keep, .inl (g 0, 12, .inl okp_91099))]) hP hD [1, 2, 3, 4, 5, 6, 7, 8, 9, 10] [0] rfl rfl (by decide) (by decide) hk1 hFc hP1 hD1
            generalize H1 = H at hP hS ⊢
            have hP : va_P D vwCl [(pl, .inl (g 0, 12, .inl f_91086)), (sv, .inr (6, [.ref n, .ref co, .ref sv_keep, .ref sv_scaled])), (n, .inr (2, [.int n_nodes, .ref n_kind, .ref n_pay, .ref n_name, .ref n_ways, .ref n_held, .ref n_targets, .ref n_weights])), (n_kind, .inl (g 0, 12, .inl n_fkind)), (n_pay, .inl (g 0, 12, .inl n_fpay)), (n_ways, .inl (g 0, 12, .inl n_fways)), (n_held, .inl (g 0, 12, .inl n_fheld)), (n_targets, .inl (g 0, 36, .inl n_ftargets)), (vs, .inr (10, [.ref vs_part, .long vsw])), (vs_part, .inl (g 1, 12, .inr (.inl vsp))), (sv_keep, .inl (g 0, 12, .inl okp_91099))] H := hP
            have hD : va_D A [(pl, .inl (g 0, 12, .inl f_91086)), (sv, .inr (6, [.ref n, .ref co, .ref sv_keep, .ref sv_scaled])), (n, .inr (2, [.int n_nodes, .ref n_kind, .ref n_pay, .ref n_name, .ref n_ways, .ref n_held, .ref n_targets, .ref n_weights])), (n_kind, .inl (g 0, 12, .inl n_fkind)), (n_pay, .inl (g 0, 12, .inl n_fpay)), (n_ways, .inl (g 0, 12, .inl n_fways)), (n_held, .inl (g 0, 12, .inl n_fheld)), (n_targets, .inl (g 0, 36, .inl n_ftargets)), (vs, .inr (10, [.ref vs_part, .long vsw])), (vs_part, .inl (g 1, 12, .inr (.inl vsp))), (sv_keep, .inl (g 0, 12, .inl okp_91099))] := hD
            have hPc := hP.sub (ws' := []) [] rfl
            refine vp_callSi (va_Run.run (va_runS (As := [.int r_91098]) (rest := [.int x_91085, .ref pl]) ⟨hx, hb, hml, hown, hts⟩ (c_X6_lowest l D g r_91098) (va_cwS 1 hts (tz_gS qw_605 qw_606 qw_558 qw_607) rfl rfl rfl (by decide +kernel) ⟨Nat.le_of_ble_eq_true rfl, Nat.le_of_ble_eq_true rfl⟩) ⟨tz_blS, tz_preS hPc hK⟩ rfl rfl hl.1 rfl (lv_room (Nat.le_of_ble_eq_true rfl)) dX6_findBest_67 ⟨Nat.le_of_ble_eq_true rfl, Nat.le_of_ble_eq_true rfl⟩)) (fun r_91100 hw => ?_)
            have hw_91101 : 0 ≤ (r_91100 : Int32).toInt ∧ (r_91100 : Int32).toInt ≤ 2 := hw
            refine va_iast hx hb hK hP hD hS 0 0 rfl rfl (tr_in h_91090 (by decide) (by decide)) dX6_findBest_70 (fun H locs hP hD hS => ?_)
            obtain ⟨f_91102, h_f_91102, hP, hD⟩ : ∃ FX : Nat → Int32, (∀ j : Nat, 0 ≤ (FX j).toInt ∧ (FX j).toInt ≤ 2) ∧ va_P D vwCl [(pl, .inl (g 0, 12, .inl FX)), (sv, .inr (6, [.ref n, .ref co, .ref sv_keep, .ref sv_scaled])), (n, .inr (2, [.int n_nodes, .ref n_kind, .ref n_pay, .ref n_name, .ref n_ways, .ref n_held, .ref n_targets, .ref n_weights])), (n_kind, .inl (g 0, 12, .inl n_fkind)), (n_pay, .inl (g 0, 12, .inl n_fpay)), (n_ways, .inl (g 0, 12, .inl n_fways)), (n_held, .inl (g 0, 12, .inl n_fheld)), (n_targets, .inl (g 0, 36, .inl n_ftargets)), (vs, .inr (10, [.ref vs_part, .long vsw])), (vs_part, .inl (g 1, 12, .inr (.inl vsp))), (sv_keep, .inl (g 0, 12, .inl okp_91099))] H ∧ va_D A [(pl, .inl (g 0, 12, .inl FX)), (sv, .inr (6, [.ref n, .ref co, .ref sv_keep, .ref sv_scaled])), (n, .inr (2, [.int n_nodes, .ref n_kind, .ref n_pay, .ref n_name, .ref n_ways, .ref n_held, .ref n_targets, .ref n_weights])), (n_kind, .inl (g 0, 12, .inl n_fkind)), (n_pay, .inl (g 0, 12, .inl n_fpay)), (n_ways, .inl (g 0, 12, .inl n_fways)), (n_held, .inl (g 0, 12, .inl n_fheld)), (n_targets, .inl (g 0, 36, .inl n_ftargets)), (vs, .inr (10, [.ref vs_part, .long vsw])), (vs_part, .inl (g 1, 12, .inr (.inl vsp))), (sv_keep, .inl (g 0, 12, .inl okp_91099))] := ⟨_, tr_upd h_f_91086 (tr_w hw_91101 (by decide) (by decide)), hP, hD⟩
            have hP : va_P D vwCl [(pl, .inl (g 0, 12, .inl f_91102)), (sv, .inr (6, [.ref n, .ref co, .ref sv_keep, .ref sv_scaled])), (n, .inr (2, [.int n_nodes, .ref n_kind, .ref n_pay, .ref n_name, .ref n_ways, .ref n_held, .ref n_targets, .ref n_weights])), (n_kind, .inl (g 0, 12, .inl n_fkind)), (n_pay, .inl (g 0, 12, .inl n_fpay)), (n_ways, .inl (g 0, 12, .inl n_fways)), (n_held, .inl (g 0, 12, .inl n_fheld)), (n_targets, .inl (g 0, 36, .inl n_ftargets)), (vs, .inr (10, [.ref vs_part, .long vsw])), (vs_part, .inl (g 1, 12, .inr (.inl vsp))), (sv_keep, .inl (g 0, 12, .inl okp_91099))] H := hP
            have hD : va_D A [(pl, .inl (g 0, 12, .inl f_91102)), (sv, .inr (6, [.ref n, .ref co, .ref sv_keep, .ref sv_scaled])), (n, .inr (2, [.int n_nodes, .ref n_kind, .ref n_pay, .ref n_name, .ref n_ways, .ref n_held, .ref n_targets, .ref n_weights])), (n_kind, .inl (g 0, 12, .inl n_fkind)), (n_pay, .inl (g 0, 12, .inl n_fpay)), (n_ways, .inl (g 0, 12, .inl n_fways)), (n_held, .inl (g 0, 12, .inl n_fheld)), (n_targets, .inl (g 0, 36, .inl n_ftargets)), (vs, .inr (10, [.ref vs_part, .long vsw])), (vs_part, .inl (g 1, 12, .inr (.inl vsp))), (sv_keep, .inl (g 0, 12, .inl okp_91099))] := hD
            refine lv_aload_n hx hb dX6_findBest_71 rfl (lv_at hl 1 rfl) ?_
            refine va_get (D := D) (ci := 6) (v := .ref sv_keep) (C := RX6) (T := TX6) (N := 4) hx hb hts inlX6 hown hK hP 1 rfl rfl 2 (by decide) (hts (Cond.fieldLink RX6 9 "ChanceRings$Solver" "keep" "[I") qw_587) (fun _ h9 => h9) rfl dX6_findBest_72 ?_
            refine lv_iload_n hx hb dX6_findBest_75 rfl (lv_at hl 0 rfl) ?_
            refine lv_iconst (v := 1) hx hb dX6_findBest_76 (by decide) ?_
            refine lv_aload_n hx hb dX6_findBest_77 rfl (lv_at hl 3 rfl) ?_
            refine lv_iload_n hx hb dX6_findBest_78 rfl (lv_at hl 0 rfl) ?_
            refine va_iald hx hb hK hP 0 0 rfl rfl (tr_in h_91090 (by decide) (by decide)) dX6_findBest_79 ?_
            refine lv_topi (fun v_91103 v_91103_e => ?_)
            have h_v_91103 : 0 ≤ (v_91103 : Int32).toInt ∧ (v_91103 : Int32).toInt ≤ 2 := by rw [v_91103_e]; exact h_f_91102 _
            refine lv_ishl hx hb dX6_findBest_80 ?_
            refine lv_topi (fun v_91104 v_91104_e => ?_)
            refine va_iast hx hb hK hP hD hS 10 0 rfl rfl (tr_in h_91090 (by decide) (by decide)) dX6_findBest_81 (fun H locs hP hD hS => ?_)
            obtain ⟨f_91105, hP, hD⟩ : ∃ FX : Nat → Int32, va_P D vwCl [(pl, .inl (g 0, 12, .inl f_91102)), (sv, .inr (6, [.ref n, .ref co, .ref sv_keep, .ref sv_scaled])), (n, .inr (2, [.int n_nodes, .ref n_kind, .ref n_pay, .ref n_name, .ref n_ways, .ref n_held, .ref n_targets, .ref n_weights])), (n_kind, .inl (g 0, 12, .inl n_fkind)), (n_pay, .inl (g 0, 12, .inl n_fpay)), (n_ways, .inl (g 0, 12, .inl n_fways)), (n_held, .inl (g 0, 12, .inl n_fheld)), (n_targets, .inl (g 0, 36, .inl n_ftargets)), (vs, .inr (10, [.ref vs_part, .long vsw])), (vs_part, .inl (g 1, 12, .inr (.inl vsp))), (sv_keep, .inl (g 0, 12, .inl FX))] H ∧ va_D A [(pl, .inl (g 0, 12, .inl f_91102)), (sv, .inr (6, [.ref n, .ref co, .ref sv_keep, .ref sv_scaled])), (n, .inr (2, [.int n_nodes, .ref n_kind, .ref n_pay, .ref n_name, .ref n_ways, .ref n_held, .ref n_targets, .ref n_weights])), (n_kind, .inl (g 0, 12, .inl n_fkind)), (n_pay, .inl (g 0, 12, .inl n_fpay)), (n_ways, .inl (g 0, 12, .inl n_fways)), (n_held, .inl (g 0, 12, .inl n_fheld)), (n_targets, .inl (g 0, 36, .inl n_ftargets)), (vs, .inr (10, [.ref vs_part, .long vsw])), (vs_part, .inl (g 1, 12, .inr (.inl vsp))), (sv_keep, .inl (g 0, 12, .inl FX))] := ⟨_, hP, hD⟩
            have hP : va_P D vwCl [(pl, .inl (g 0, 12, .inl f_91102)), (sv, .inr (6, [.ref n, .ref co, .ref sv_keep, .ref sv_scaled])), (n, .inr (2, [.int n_nodes, .ref n_kind, .ref n_pay, .ref n_name, .ref n_ways, .ref n_held, .ref n_targets, .ref n_weights])), (n_kind, .inl (g 0, 12, .inl n_fkind)), (n_pay, .inl (g 0, 12, .inl n_fpay)), (n_ways, .inl (g 0, 12, .inl n_fways)), (n_held, .inl (g 0, 12, .inl n_fheld)), (n_targets, .inl (g 0, 36, .inl n_ftargets)), (vs, .inr (10, [.ref vs_part, .long vsw])), (vs_part, .inl (g 1, 12, .inr (.inl vsp))), (sv_keep, .inl (g 0, 12, .inl f_91105))] H := hP
            have hD : va_D A [(pl, .inl (g 0, 12, .inl f_91102)), (sv, .inr (6, [.ref n, .ref co, .ref sv_keep, .ref sv_scaled])), (n, .inr (2, [.int n_nodes, .ref n_kind, .ref n_pay, .ref n_name, .ref n_ways, .ref n_held, .ref n_targets, .ref n_weights])), (n_kind, .inl (g 0, 12, .inl n_fkind)), (n_pay, .inl (g 0, 12, .inl n_fpay)), (n_ways, .inl (g 0, 12, .inl n_fways)), (n_held, .inl (g 0, 12, .inl n_fheld)), (n_targets, .inl (g 0, 36, .inl n_ftargets)), (vs, .inr (10, [.ref vs_part, .long vsw])), (vs_part, .inl (g 1, 12, .inr (.inl vsp))), (sv_keep, .inl (g 0, 12, .inl f_91105))] := hD
            obtain ⟨v_91106, v_91106_e⟩ : ∃ y : Int32, y = x_91085 + Int32.ofInt 1 := ⟨_, rfl⟩
            have h_v_91106 : 1 ≤ (v_91106 : Int32).toInt ∧ (v_91106 : Int32).toInt ≤ 12 := by rw [v_91106_e]; exact tr_add h_91090 (⟨by decide, by decide⟩ : 1 ≤ (Int32.ofInt 1 : Int32).toInt ∧ (Int32.ofInt 1 : Int32).toInt ≤ 1) (by decide) (by decide) (by decide) (by decide)
            have q_v_91106 : v_91106.toInt = x_91085.toInt + 1 := by rw [v_91106_e]; exact tr_addE h_91090 (⟨by decide, by decide⟩ : 1 ≤ (Int32.ofInt 1 : Int32).toInt ∧ (Int32.ofInt 1 : Int32).toInt ≤ 1) (by decide) (by decide)
            refine lv_iinc (v := v_91106) (lv' := [(3, .int v_91106), (0, .ref sv), (1, .ref vs), (2, .ref pl)]) hx hb dX6_findBest_82 hl (k := 0) rfl v_91106_e.symm (by decide) rfl (fun ls hl => ?_)
            refine lv_goto (tgt := 7) hx hb dX6_findBest_85 (by decide) ?_
            exact ih_91088 v_91106 f_91102 f_91105 H _ ls (tr_w h_v_91106 (by decide) (by decide)) (tr_wa h_f_91102 (by decide) (by decide)) (by (first | (clear h_f_91086 h_v_91092 c_91095_i h_91096 hw_91101 h_v_91103; omega) | omega)) (hP.sub [0, 1, 2, 3, 4, 5, 6, 7, 8, 9, 10] rfl) (hD.sub [0, 1, 2, 3, 4, 5, 6, 7, 8, 9, 10] (by decide) rfl) hS (lv_sub hl [0, 1, 2, 3] rfl)
        · skip
          have c_91093_i : (v_91092 : Int32).toInt = (2 : Int32).toInt := congrArg Int32.toInt c_91093
          have h_91094 : 2 ≤ (v_91092 : Int32).toInt ∧ (v_91092 : Int32).toInt ≤ 2 := nr_eq_l h_v_91092 (⟨by decide, by decide⟩ : 2 ≤ (2 : Int32).toInt ∧ (2 : Int32).toInt ≤ 2) c_91093_i (by decide) (by decide)
          refine lv_aload_n hx hb dX6_findBest_31 rfl (lv_at hl 3 rfl) ?_
          refine lv_iload_n hx hb dX6_findBest_32 rfl (lv_at hl 0 rfl) ?_
          refine lv_aload_n hx hb dX6_findBest_33 rfl (lv_at hl 1 rfl) ?_
          refine va_get (D := D) (ci := 6) (v := .ref sv_keep) (C := RX6) (T := TX6) (N := 4) hx hb hts inlX6 hown hK hP 1 rfl rfl 2 (by decide) (hts (Cond.fieldLink RX6 9 "ChanceRings$Solver" "keep" "[I") qw_587) (fun _ h9 => h9) rfl dX6_findBest_34 ?_
          refine lv_iload_n hx hb dX6_findBest_37 rfl (lv_at hl 0 rfl) ?_
          refine va_iald hx hb hK hP 10 0 rfl rfl (tr_in h_91090 (by decide) (by decide)) dX6_findBest_38 ?_
          refine lv_topi (fun v_91107 v_91107_e => ?_)
          have hPc := hP.sub (ws' := []) [] rfl
          refine vp_callSi (va_Run.run (va_runS (As := [.int v_91107]) (rest := [.int x_91085, .ref pl]) ⟨hx, hb, hml, hown, hts⟩ (c_X6_lowest l D g v_91107) (va_cwS 1 hts (tz_gS qw_605 qw_606 qw_558 qw_607) rfl rfl rfl (by decide +kernel) ⟨Nat.le_of_ble_eq_true rfl, Nat.le_of_ble_eq_true rfl⟩) ⟨tz_blS, tz_preS hPc hK⟩ rfl rfl hl.1 rfl (lv_room (Nat.le_of_ble_eq_true rfl)) dX6_findBest_39 ⟨Nat.le_of_ble_eq_true rfl, Nat.le_of_ble_eq_true rfl⟩)) (fun r_91108 hw => ?_)
          have hw_91109 : 0 ≤ (r_91108 : Int32).toInt ∧ (r_91108 : Int32).toInt ≤ 2 := hw
          refine va_iast hx hb hK hP hD hS 0 0 rfl rfl (tr_in h_91090 (by decide) (by decide)) dX6_findBest_42 (fun H locs hP hD hS => ?_)
          obtain ⟨f_91110, h_f_91110, hP, hD⟩ : ∃ FX : Nat → Int32, (∀ j : Nat, 0 ≤ (FX j).toInt ∧ (FX j).toInt ≤ 2) ∧ va_P D vwCl [(pl, .inl (g 0, 12, .inl FX)), (sv, .inr (6, [.ref n, .ref co, .ref sv_keep, .ref sv_scaled])), (n, .inr (2, [.int n_nodes, .ref n_kind, .ref n_pay, .ref n_name, .ref n_ways, .ref n_held, .ref n_targets, .ref n_weights])), (n_kind, .inl (g 0, 12, .inl n_fkind)), (n_pay, .inl (g 0, 12, .inl n_fpay)), (n_ways, .inl (g 0, 12, .inl n_fways)), (n_held, .inl (g 0, 12, .inl n_fheld)), (n_targets, .inl (g 0, 36, .inl n_ftargets)), (vs, .inr (10, [.ref vs_part, .long vsw])), (vs_part, .inl (g 1, 12, .inr (.inl vsp))), (sv_keep, .inl (g 0, 12, .inl f_91087))] H ∧ va_D A [(pl, .inl (g 0, 12, .inl FX)), (sv, .inr (6, [.ref n, .ref co, .ref sv_keep, .ref sv_scaled])), (n, .inr (2, [.int n_nodes, .ref n_kind, .ref n_pay, .ref n_name, .ref n_ways, .ref n_held, .ref n_targets, .ref n_weights])), (n_kind, .inl (g 0, 12, .inl n_fkind)), (n_pay, .inl (g 0, 12, .inl n_fpay)), (n_ways, .inl (g 0, 12, .inl n_fways)), (n_held, .inl (g 0, 12, .inl n_fheld)), (n_targets, .inl (g 0, 36, .inl n_ftargets)), (vs, .inr (10, [.ref vs_part, .long vsw])), (vs_part, .inl (g 1, 12, .inr (.inl vsp))), (sv_keep, .inl (g 0, 12, .inl f_91087))] := ⟨_, tr_upd h_f_91086 (tr_w hw_91109 (by decide) (by decide)), hP, hD⟩
          have hP : va_P D vwCl [(pl, .inl (g 0, 12, .inl f_91110)), (sv, .inr (6, [.ref n, .ref co, .ref sv_keep, .ref sv_scaled])), (n, .inr (2, [.int n_nodes, .ref n_kind, .ref n_pay, .ref n_name, .ref n_ways, .ref n_held, .ref n_targets, .ref n_weights])), (n_kind, .inl (g 0, 12, .inl n_fkind)), (n_pay, .inl (g 0, 12, .inl n_fpay)), (n_ways, .inl (g 0, 12, .inl n_fways)), (n_held, .inl (g 0, 12, .inl n_fheld)), (n_targets, .inl (g 0, 36, .inl n_ftargets)), (vs, .inr (10, [.ref vs_part, .long vsw])), (vs_part, .inl (g 1, 12, .inr (.inl vsp))), (sv_keep, .inl (g 0, 12, .inl f_91087))] H := hP
          have hD : va_D A [(pl, .inl (g 0, 12, .inl f_91110)), (sv, .inr (6, [.ref n, .ref co, .ref sv_keep, .ref sv_scaled])), (n, .inr (2, [.int n_nodes, .ref n_kind, .ref n_pay, .ref n_name, .ref n_ways, .ref n_held, .ref n_targets, .ref n_weights])), (n_kind, .inl (g 0, 12, .inl n_fkind)), (n_pay, .inl (g 0, 12, .inl n_fpay)), (n_ways, .inl (g 0, 12, .inl n_fways)), (n_held, .inl (g 0, 12, .inl n_fheld)), (n_targets, .inl (g 0, 36, .inl n_ftargets)), (vs, .inr (10, [.ref vs_part, .long vsw])), (vs_part, .inl (g 1, 12, .inr (.inl vsp))), (sv_keep, .inl (g 0, 12, .inl f_91087))] := hD
          refine lv_goto (tgt := 82) hx hb dX6_findBest_43 (by decide) ?_
          obtain ⟨v_91111, v_91111_e⟩ : ∃ y : Int32, y = x_91085 + Int32.ofInt 1 := ⟨_, rfl⟩
          have h_v_91111 : 1 ≤ (v_91111 : Int32).toInt ∧ (v_91111 : Int32).toInt ≤ 12 := by rw [v_91111_e]; exact tr_add h_91090 (⟨by decide, by decide⟩ : 1 ≤ (Int32.ofInt 1 : Int32).toInt ∧ (Int32.ofInt 1 : Int32).toInt ≤ 1) (by decide) (by decide) (by decide) (by decide)
          have q_v_91111 : v_91111.toInt = x_91085.toInt + 1 := by rw [v_91111_e]; exact tr_addE h_91090 (⟨by decide, by decide⟩ : 1 ≤ (Int32.ofInt 1 : Int32).toInt ∧ (Int32.ofInt 1 : Int32).toInt ≤ 1) (by decide) (by decide)
          refine lv_iinc (v := v_91111) (lv' := [(3, .int v_91111), (0, .ref sv), (1, .ref vs), (2, .ref pl)]) hx hb dX6_findBest_82 hl (k := 0) rfl v_91111_e.symm (by decide) rfl (fun ls hl => ?_)
          refine lv_goto (tgt := 7) hx hb dX6_findBest_85 (by decide) ?_
          exact ih_91088 v_91111 f_91110 f_91087 H _ ls (tr_w h_v_91111 (by decide) (by decide)) (tr_wa h_f_91110 (by decide) (by decide)) (by (first | (clear h_f_91086 h_v_91092 c_91093_i h_91094 hw_91109; omega) | omega)) (hP.sub [0, 1, 2, 3, 4, 5, 6, 7, 8, 9, 10] rfl) (hD.sub [0, 1, 2, 3, 4, 5, 6, 7, 8, 9, 10] (by decide) rfl) hS (lv_sub hl [0, 1, 2, 3] rfl)
  exact lp_91088 13 0 plf okp_90882 H _ ls (⟨by decide, by decide⟩ : 0 ≤ (0 : Int32).toInt ∧ (0 : Int32).toInt ≤ 12) (tr_wa h_plf (by decide) (by decide)) (by decide) (hP.sub [0, 1, 2, 3, 4, 5, 6, 7, 8, 9, 10] rfl) (hD.sub [0, 1, 2, 3, 4, 5, 6, 7, 8, 9, 10] (by decide) rfl) hS (lv_sub hl [0, 1, 2, 3] rfl)
set_option maxHeartbeats 4000000 in
set_option maxRecDepth 100000 in
theorem c_X6_oneMoveMore (l : Launch) (D : va_G) (g : Nat → ClassId) (sv : Nat) (p0 : Int32) (vs : Nat) (n : Nat) (co : Nat) (sv_keep : Nat) (sv_scaled : Nat) (n_nodes : Int32) (n_kind : Nat) (n_pay : Nat) (n_name : Nat) (n_ways : Nat) (n_held : Nat) (n_targets : Nat) (n_weights : Nat) (n_fkind : Nat → Int32) (n_fways : Nat → Int32) (n_fheld : Nat → Int32) (n_ftargets : Nat → Int32) (n_fweights : Nat → Int32) (vs_part : Nat) (vsw : Int64) (vsp : Nat → Int64) (h_p0 : 0 ≤ (p0 : Int32).toInt ∧ (p0 : Int32).toInt ≤ 11) (h_n_nodes : 0 ≤ (n_nodes : Int32).toInt ∧ (n_nodes : Int32).toInt ≤ 12) (h_n_fkind : ∀ j : Nat, 0 ≤ (n_fkind j).toInt ∧ (n_fkind j).toInt ≤ 3) (h_n_fways : ∀ j : Nat, 0 ≤ (n_fways j).toInt ∧ (n_fways j).toInt ≤ 3) (h_n_fheld : ∀ j : Nat, (-1) ≤ (n_fheld j).toInt ∧ (n_fheld j).toInt ≤ 2) (h_n_ftargets : ∀ j : Nat, 0 ≤ (n_ftargets j).toInt ∧ (n_ftargets j).toInt ≤ 11) : Met l yX6_oneMoveMore (.code yX6_oneMoveMore cX6_oneMoveMore 6 (some .long) :: wsL_law) ({ frames := 2, cells := 0, slots := 0, locals := 50 }) (va_Pc [.ref sv, .int p0, .ref vs] (fun U => va_P D vwCl [(sv, .inr (6, [.ref n, .ref co, .ref sv_keep, .ref sv_scaled])), (n, .inr (2, [.int n_nodes, .ref n_kind, .ref n_pay, .ref n_name, .ref n_ways, .ref n_held, .ref n_targets, .ref n_weights])), (n_kind, .inl (g 0, 12, .inl n_fkind)), (n_ways, .inl (g 0, 12, .inl n_fways)), (n_held, .inl (g 0, 12, .inl n_fheld)), (n_targets, .inl (g 0, 36, .inl n_ftargets)), (n_weights, .inl (g 0, 36, .inl n_fweights)), (vs, .inr (10, [.ref vs_part, .long vsw])), (vs_part, .inl (g 1, 12, .inr (.inl vsp)))] U.heap ∧ va_K D vwCl (TY g) U)) (vp_Sl (fun r => True)) 0 0 (fun _ => False) := by
  refine Met.ofW (cc := cX6_oneMoveMore) (maxL := 6) (ret := (some .long)) (by decide) rfl ?_
  intro p e s m args below meth c s₁ B hml hv
  obtain ⟨ha, hP, hK⟩ := hv
  have hx := B.exec
  have hb := B.bytes
  have hr := B.returns
  have hts0 := atoms_spec (ws := (.code yX6_oneMoveMore cX6_oneMoveMore 6 (some .long) :: wsL_law)) B.pre
  have hts : ∀ w ∈ wsL_law, w.before args s = true := fun w h => hts0 w (List.mem_cons_of_mem _ h)
  have hown : s.vm.findClass RX6 = some m.cls := findClass_of_methodNamed B.named
  have hlocks := B.notSynchronized
  have hP : va_P D vwCl [(sv, .inr (6, [.ref n, .ref co, .ref sv_keep, .ref sv_scaled])), (n, .inr (2, [.int n_nodes, .ref n_kind, .ref n_pay, .ref n_name, .ref n_ways, .ref n_held, .ref n_targets, .ref n_weights])), (n_kind, .inl (g 0, 12, .inl n_fkind)), (n_ways, .inl (g 0, 12, .inl n_fways)), (n_held, .inl (g 0, 12, .inl n_fheld)), (n_targets, .inl (g 0, 36, .inl n_ftargets)), (n_weights, .inl (g 0, 36, .inl n_fweights)), (vs, .inr (10, [.ref vs_part, .long vsw])), (vs_part, .inl (g 1, 12, .inr (.inl vsp)))] s.heap := hP
  refine W.eq (g2 := entryFrame m ([.ref sv, .int p0, .ref vs] : List Value).toArray 6) (by rw [ha]) ?_
  have hl := lv_entry ([.ref sv, .int p0, .ref vs]) (n := 6) (Nat.le_of_ble_eq_true rfl)
  rw [lg_entry_eq]
  generalize (lg_sl ([.ref sv, .int p0, .ref vs]) ++ List.replicate (6 - (lg_sl ([.ref sv, .int p0, .ref vs])).length) Slot.unset).toArray = ls at hl ⊢
  have hl : lv_has ls 6 [(0, .ref sv), (1, .int p0), (2, .ref vs)] := hl
  refine lv_aload_n hx hb dX6_oneMoveMore_0 rfl (lv_at hl 0 rfl) ?_
  refine va_get (D := D) (ci := 6) (v := .ref n) (C := RX6) (T := TX6) (N := 4) hx hb hts inlX6 hown hK hP 0 rfl rfl 0 (by decide) (hts (Cond.fieldLink RX6 19 "ChanceRings$Solver" "net" "LChanceRings$Net;") qw_548) (fun _ h9 => h9) rfl dX6_oneMoveMore_1 ?_
  refine va_get (D := D) (ci := 2) (v := .ref n_kind) (C := RX2) (T := TX2) (N := 8) hx hb hts inlX2 hown hK hP 1 rfl rfl 1 (by decide) (hts (Cond.fieldLink RX6 61 "ChanceRings$Net" "kind" "[I") qw_551) (fun _ h9 => h9) rfl dX6_oneMoveMore_4 ?_
  refine lv_iload_n hx hb dX6_oneMoveMore_7 rfl (lv_at hl 1 rfl) ?_
  refine va_iald hx hb hK hP 2 0 rfl rfl (tr_in h_p0 (by decide) (by decide)) dX6_oneMoveMore_8 ?_
  refine lv_topi (fun v_91112 v_91112_e => ?_)
  have h_v_91112 : 0 ≤ (v_91112 : Int32).toInt ∧ (v_91112 : Int32).toInt ≤ 3 := by rw [v_91112_e]; exact h_n_fkind _
  refine lv_if_ne (tgt := 23) hx hb dX6_oneMoveMore_9 (by decide) (fun c_91113 => ?_) (fun c_91113 => ?_)
  · skip
    have c_91113_i : ¬ (v_91112 : Int32).toInt = (0 : Int32).toInt := (fun q => c_91113 (Int32.toInt_inj.mp q))
    have h_91114 : 1 ≤ (v_91112 : Int32).toInt ∧ (v_91112 : Int32).toInt ≤ 3 := nr_ne_l h_v_91112 (⟨by decide, by decide⟩ : 0 ≤ (0 : Int32).toInt ∧ (0 : Int32).toInt ≤ 0) c_91113_i (by decide) (by decide)
    refine lv_aload_n hx hb dX6_oneMoveMore_23 rfl (lv_at hl 0 rfl) ?_
    refine va_get (D := D) (ci := 6) (v := .ref n) (C := RX6) (T := TX6) (N := 4) hx hb hts inlX6 hown hK hP 0 rfl rfl 0 (by decide) (hts (Cond.fieldLink RX6 19 "ChanceRings$Solver" "net" "LChanceRings$Net;") qw_548) (fun _ h9 => h9) rfl dX6_oneMoveMore_24 ?_
    refine va_get (D := D) (ci := 2) (v := .ref n_kind) (C := RX2) (T := TX2) (N := 8) hx hb hts inlX2 hown hK hP 1 rfl rfl 1 (by decide) (hts (Cond.fieldLink RX6 61 "ChanceRings$Net" "kind" "[I") qw_551) (fun _ h9 => h9) rfl dX6_oneMoveMore_27 ?_
    refine lv_iload_n hx hb dX6_oneMoveMore_30 rfl (lv_at hl 1 rfl) ?_
    refine va_iald hx hb hK hP 2 0 rfl rfl (tr_in h_p0 (by decide) (by decide)) dX6_oneMoveMore_31 ?_
    refine tz_i (y := v_91112) v_91112_e.symm ?_
    refine lv_iconst (v := 3) hx hb dX6_oneMoveMore_32 (by decide) ?_
    refine lv_icmp_eq (tgt := 109) hx hb dX6_oneMoveMore_33 (by decide) (fun c_91116 => ?_) (fun c_91116 => ?_)
    · skip
      have c_91116_i : (v_91112 : Int32).toInt = (3 : Int32).toInt := congrArg Int32.toInt c_91116
      have h_91117 : 3 ≤ (v_91112 : Int32).toInt ∧ (v_91112 : Int32).toInt ≤ 3 := nr_eq_l h_91114 (⟨by decide, by decide⟩ : 3 ≤ (3 : Int32).toInt ∧ (3 : Int32).toInt ≤ 3) c_91116_i (by decide) (by decide)
      refine lv_lconst (v := 0) hx hb dX6_oneMoveMore_109 (by decide) ?_
      refine lv_lstore_n (lv' := [(3, .long 0), (0, .ref sv), (1, .int p0), (2, .ref vs)]) hx hb dX6_oneMoveMore_110 rfl hl (by decide) rfl (fun ls hl => ?_)
      refine lv_iconst (v := 0) hx hb dX6_oneMoveMore_111 (by decide) ?_
      refine lv_istore (lv' := [(5, .int 0), (3, .long 0), (0, .ref sv), (1, .int p0), (2, .ref vs)]) hx hb dX6_oneMoveMore_112 hl (by decide) rfl (fun ls hl => ?_)
      have lp_91198 : ∀ (n_91198 : Nat) (x_91196 : Int32) (x_91197 : Int64) (ls : Array Slot), (0 ≤ (x_91196 : Int32).toInt ∧ (x_91196 : Int32).toInt ≤ 3) → (3 - x_91196.toInt < (n_91198 : Int)) → lv_has ls 6 [(5, .int x_91196), (3, .long x_91197), (0, .ref sv), (1, .int p0), (2, .ref vs)] → W p l e (headSpec (.code yX6_oneMoveMore cX6_oneMoveMore 6 (some .long) :: wsL_law) ({ frames := 2, cells := 0, slots := 0, locals := 50 })).room s m args below meth c s.heap [] 0 0 (MQ below (vp_Sl (fun r => True)) args s 0 0 (fun _ => False)) (F0 m 114 ls []) := by
        intro n_91198
        induction n_91198 with
        | zero =>
          intro x_91196 x_91197 ls h_x_91196 hm_91198 hl
          exfalso; omega
        | succ n_91198 ih_91198 =>
          intro x_91196 x_91197 ls h_x_91196 hm_91198 hl
          refine lv_iload hx hb dX6_oneMoveMore_114 (lv_at hl 0 rfl) ?_
          refine lv_aload_n hx hb dX6_oneMoveMore_116 rfl (lv_at hl 2 rfl) ?_
          refine va_get (D := D) (ci := 6) (v := .ref n) (C := RX6) (T := TX6) (N := 4) hx hb hts inlX6 hown hK hP 0 rfl rfl 0 (by decide) (hts (Cond.fieldLink RX6 19 "ChanceRings$Solver" "net" "LChanceRings$Net;") qw_548) (fun _ h9 => h9) rfl dX6_oneMoveMore_117 ?_
          refine va_get (D := D) (ci := 2) (v := .ref n_ways) (C := RX2) (T := TX2) (N := 8) hx hb hts inlX2 hown hK hP 1 rfl rfl 4 (by decide) (hts (Cond.fieldLink RX6 68 "ChanceRings$Net" "ways" "[I") qw_552) (fun _ h9 => h9) rfl dX6_oneMoveMore_120 ?_
          refine lv_iload_n hx hb dX6_oneMoveMore_123 rfl (lv_at hl 3 rfl) ?_
          refine va_iald hx hb hK hP 3 0 rfl rfl (tr_in h_p0 (by decide) (by decide)) dX6_oneMoveMore_124 ?_
          refine lv_topi (fun v_91199 v_91199_e => ?_)
          have h_v_91199 : 0 ≤ (v_91199 : Int32).toInt ∧ (v_91199 : Int32).toInt ≤ 3 := by rw [v_91199_e]; exact h_n_fways _
          refine lv_icmp_ge (tgt := 164) hx hb dX6_oneMoveMore_125 (by decide) (fun c_91200 => ?_) (fun c_91200 => ?_)
          · skip
            refine lv_aload_n hx hb dX6_oneMoveMore_164 rfl (lv_at hl 2 rfl) ?_
            refine va_get (D := D) (ci := 6) (v := .ref n) (C := RX6) (T := TX6) (N := 4) hx hb hts inlX6 hown hK hP 0 rfl rfl 0 (by decide) (hts (Cond.fieldLink RX6 19 "ChanceRings$Solver" "net" "LChanceRings$Net;") qw_548) (fun _ h9 => h9) rfl dX6_oneMoveMore_165 ?_
            refine lv_iload_n hx hb dX6_oneMoveMore_168 rfl (lv_at hl 3 rfl) ?_
            have hPc := hP.sub (ws' := [(n, .inr (2, [.int n_nodes, .ref n_kind, .ref n_pay, .ref n_name, .ref n_ways, .ref n_held, .ref n_targets, .ref n_weights])), (n_kind, .inl (g 0, 12, .inl n_fkind)), (n_ways, .inl (g 0, 12, .inl n_fways)), (n_weights, .inl (g 0, 36, .inl n_fweights))]) [1, 2, 3, 6] rfl
            refine vp_callSi (va_Run.run (va_runV (As := [.int p0]) (rest := []) ⟨hx, hb, hml, hown, hts⟩ (c_X2_together l D g n p0 n_nodes n_kind n_pay n_name n_ways n_held n_targets n_weights n_fkind n_fways n_fweights (tr_w h_p0 (by decide) (by decide)) (tr_w h_n_nodes (by decide) (by decide)) (tr_wa h_n_fkind (by decide) (by decide)) (tr_wa h_n_fways (by decide) (by decide))) (cwV 1 hts (tz_gV qw_608 qw_445 qw_446 qw_322 qw_447) rfl rfl rfl (by decide +kernel) ⟨Nat.le_of_ble_eq_true rfl, Nat.le_of_ble_eq_true rfl⟩) ⟨tz_blS, va_recv hK hPc (ci := 2) (q0 := 0) rfl rfl, tz_preS hPc hK⟩ rfl rfl hl.1 rfl (lv_room (Nat.le_of_ble_eq_true rfl)) dX6_oneMoveMore_169 ⟨Nat.le_of_ble_eq_true rfl, Nat.le_of_ble_eq_true rfl⟩)) (fun r_91203 hw => ?_)
            refine lv_istore (lv' := [(5, .int r_91203), (3, .long x_91197), (0, .ref sv), (1, .int p0), (2, .ref vs)]) hx hb dX6_oneMoveMore_172 hl (by decide) rfl (fun ls hl => ?_)
            refine lv_iload hx hb dX6_oneMoveMore_174 (lv_at hl 0 rfl) ?_
            refine lv_if_ne (tgt := 183) hx hb dX6_oneMoveMore_176 (by decide) (fun c_91204 => ?_) (fun c_91204 => ?_)
            · skip
              refine lv_bipush (v := 12) hx hb dX6_oneMoveMore_183 (by decide) ?_
              refine lv_iload hx hb dX6_oneMoveMore_185 (lv_at hl 0 rfl) ?_
              refine lv_idiv hx hb dX6_oneMoveMore_187 c_91204 ?_
              refine lv_topi (fun v_91206 v_91206_e => ?_)
              refine lv_i2l hx hb dX6_oneMoveMore_188 rfl ?_
              refine lv_topl (fun w_91207 _ => ?_)
              refine lv_lload_n hx hb dX6_oneMoveMore_189 rfl (lv_at hl 1 rfl) ?_
              refine lv_lmul hx hb dX6_oneMoveMore_190 ?_
              refine lv_topl (fun w_91208 _ => ?_)
              exact W.lret (v := w_91208) hx hb hr (fun t ht hW => ⟨w_91208, rfl, trivial, ht⟩) (fun _ h => nomatch h) dX6_oneMoveMore_191
            · skip
              have h_91205 : 0 ≤ (r_91203 : Int32).toInt ∧ (r_91203 : Int32).toInt ≤ 0 := by rw [c_91204]; exact ⟨by decide, by decide⟩
              refine lv_lconst (v := 0) hx hb dX6_oneMoveMore_179 (by decide) ?_
              refine lv_goto (tgt := 191) hx hb dX6_oneMoveMore_180 (by decide) ?_
              exact W.lret (v := 0) hx hb hr (fun t ht hW => ⟨0, rfl, trivial, ht⟩) (fun _ h => nomatch h) dX6_oneMoveMore_191
          · skip
            have c_91200_i := Int32.lt_iff_toInt_lt.mp (Int32.not_le.mp c_91200)
            have h_91201 : 0 ≤ (x_91196 : Int32).toInt ∧ (x_91196 : Int32).toInt ≤ 2 := nr_lt_l h_x_91196 h_v_91199 c_91200_i (by decide) (by decide)
            have h_91202 : 1 ≤ (v_91199 : Int32).toInt ∧ (v_91199 : Int32).toInt ≤ 3 := nr_lt_r h_x_91196 h_v_91199 c_91200_i (by decide) (by decide)
            refine lv_lload_n hx hb dX6_oneMoveMore_128 rfl (lv_at hl 1 rfl) ?_
            refine lv_aload_n hx hb dX6_oneMoveMore_129 rfl (lv_at hl 2 rfl) ?_
            refine va_get (D := D) (ci := 6) (v := .ref n) (C := RX6) (T := TX6) (N := 4) hx hb hts inlX6 hown hK hP 0 rfl rfl 0 (by decide) (hts (Cond.fieldLink RX6 19 "ChanceRings$Solver" "net" "LChanceRings$Net;") qw_548) (fun _ h9 => h9) rfl dX6_oneMoveMore_130 ?_
            refine lv_iload_n hx hb dX6_oneMoveMore_133 rfl (lv_at hl 3 rfl) ?_
            refine lv_iload hx hb dX6_oneMoveMore_134 (lv_at hl 0 rfl) ?_
            have hPc := hP.sub (ws' := [(n, .inr (2, [.int n_nodes, .ref n_kind, .ref n_pay, .ref n_name, .ref n_ways, .ref n_held, .ref n_targets, .ref n_weights])), (n_weights, .inl (g 0, 36, .inl n_fweights))]) [1, 6] rfl
            refine vp_callSi (va_Run.run (va_runV (As := [.int p0, .int x_91196]) (rest := [.long x_91197]) ⟨hx, hb, hml, hown, hts⟩ (c_X2_weight l D g n p0 x_91196 n_nodes n_kind n_pay n_name n_ways n_held n_targets n_weights n_fweights (tr_w h_p0 (by decide) (by decide)) (tr_w h_91201 (by decide) (by decide)) (tr_w h_n_nodes (by decide) (by decide))) (cwV 2 hts (tz_gV qw_609 qw_375 qw_376 qw_322 qw_377) rfl rfl rfl (by decide +kernel) ⟨Nat.le_of_ble_eq_true rfl, Nat.le_of_ble_eq_true rfl⟩) ⟨tz_blS, va_recv hK hPc (ci := 2) (q0 := 0) rfl rfl, tz_preS hPc hK⟩ rfl rfl hl.1 rfl (lv_room (Nat.le_of_ble_eq_true rfl)) dX6_oneMoveMore_136 ⟨Nat.le_of_ble_eq_true rfl, Nat.le_of_ble_eq_true rfl⟩)) (fun r_91209 hw => ?_)
            refine lv_i2l hx hb dX6_oneMoveMore_139 rfl ?_
            refine lv_topl (fun w_91210 _ => ?_)
            refine lv_aload_n hx hb dX6_oneMoveMore_140 rfl (lv_at hl 4 rfl) ?_
            refine va_get (D := D) (ci := 10) (v := .ref vs_part) (C := RX10) (T := TX10) (N := 2) hx hb hts inlX10 hown hK hP 7 rfl rfl 0 (by decide) (hts (Cond.fieldLink RX6 71 "ChanceRings$Values" "part" "[J") qw_553) (fun _ h9 => h9) rfl dX6_oneMoveMore_141 ?_
            refine lv_aload_n hx hb dX6_oneMoveMore_144 rfl (lv_at hl 2 rfl) ?_
            refine va_get (D := D) (ci := 6) (v := .ref n) (C := RX6) (T := TX6) (N := 4) hx hb hts inlX6 hown hK hP 0 rfl rfl 0 (by decide) (hts (Cond.fieldLink RX6 19 "ChanceRings$Solver" "net" "LChanceRings$Net;") qw_548) (fun _ h9 => h9) rfl dX6_oneMoveMore_145 ?_
            refine lv_iload_n hx hb dX6_oneMoveMore_148 rfl (lv_at hl 3 rfl) ?_
            refine lv_iload hx hb dX6_oneMoveMore_149 (lv_at hl 0 rfl) ?_
            have hPc := hP.sub (ws' := [(n, .inr (2, [.int n_nodes, .ref n_kind, .ref n_pay, .ref n_name, .ref n_ways, .ref n_held, .ref n_targets, .ref n_weights])), (n_targets, .inl (g 0, 36, .inl n_ftargets))]) [1, 5] rfl
            refine vp_callSi (va_Run.run (va_runV (As := [.int p0, .int x_91196]) (rest := [.ref vs_part, .long w_91210, .long x_91197]) ⟨hx, hb, hml, hown, hts⟩ (c_X2_target l D g n p0 x_91196 n_nodes n_kind n_pay n_name n_ways n_held n_targets n_weights n_ftargets (tr_w h_p0 (by decide) (by decide)) (tr_w h_91201 (by decide) (by decide)) (tr_w h_n_nodes (by decide) (by decide)) (tr_wa h_n_ftargets (by decide) (by decide))) (cwV 2 hts (tz_gV qw_554 qw_325 qw_326 qw_322 qw_327) rfl rfl rfl (by decide +kernel) ⟨Nat.le_of_ble_eq_true rfl, Nat.le_of_ble_eq_true rfl⟩) ⟨tz_blS, va_recv hK hPc (ci := 2) (q0 := 0) rfl rfl, tz_preS hPc hK⟩ rfl rfl hl.1 rfl (lv_room (Nat.le_of_ble_eq_true rfl)) dX6_oneMoveMore_151 ⟨Nat.le_of_ble_eq_true rfl, Nat.le_of_ble_eq_true rfl⟩)) (fun r_91211 hw => ?_)
            have hw_91212 : 0 ≤ (r_91211 : Int32).toInt ∧ (r_91211 : Int32).toInt ≤ 11 := hw
            refine va_lald hx hb hK hP 8 1 rfl rfl (tr_in hw_91212 (by decide) (by decide)) dX6_oneMoveMore_154 ?_
            refine lv_topl (fun w_91213 _ => ?_)
            refine lv_lmul hx hb dX6_oneMoveMore_155 ?_
            refine lv_topl (fun w_91214 _ => ?_)
            refine lv_ladd hx hb dX6_oneMoveMore_156 ?_
            refine lv_topl (fun w_91215 _ => ?_)
            refine lv_lstore_n (lv' := [(3, .long w_91215), (5, .int x_91196), (0, .ref sv), (1, .int p0), (2, .ref vs)]) hx hb dX6_oneMoveMore_157 rfl hl (by decide) rfl (fun ls hl => ?_)
            obtain ⟨v_91216, v_91216_e⟩ : ∃ y : Int32, y = x_91196 + Int32.ofInt 1 := ⟨_, rfl⟩
            have h_v_91216 : 1 ≤ (v_91216 : Int32).toInt ∧ (v_91216 : Int32).toInt ≤ 3 := by rw [v_91216_e]; exact tr_add h_91201 (⟨by decide, by decide⟩ : 1 ≤ (Int32.ofInt 1 : Int32).toInt ∧ (Int32.ofInt 1 : Int32).toInt ≤ 1) (by decide) (by decide) (by decide) (by decide)
            have q_v_91216 : v_91216.toInt = x_91196.toInt + 1 := by rw [v_91216_e]; exact tr_addE h_91201 (⟨by decide, by decide⟩ : 1 ≤ (Int32.ofInt 1 : Int32).toInt ∧ (Int32.ofInt 1 : Int32).toInt ≤ 1) (by decide) (by decide)
            refine lv_iinc (v := v_91216) (lv' := [(5, .int v_91216), (3, .long w_91215), (0, .ref sv), (1, .int p0), (2, .ref vs)]) hx hb dX6_oneMoveMore_158 hl (k := 1) rfl v_91216_e.symm (by decide) rfl (fun ls hl => ?_)
            refine lv_goto (tgt := 114) hx hb dX6_oneMoveMore_161 (by decide) ?_
            exact ih_91198 v_91216 w_91215 ls (tr_w h_v_91216 (by decide) (by decide)) (by (first | (clear h_p0 h_n_nodes h_v_91112 c_91113_i h_91114 c_91116_i h_91117 hw_91212; omega) | omega)) (lv_sub hl [0, 1, 2, 3, 4] rfl)
      exact lp_91198 4 0 0 ls (⟨by decide, by decide⟩ : 0 ≤ (0 : Int32).toInt ∧ (0 : Int32).toInt ≤ 3) (by decide) (lv_sub hl [0, 1, 2, 3, 4] rfl)
    · skip
      have c_91116_i : ¬ (v_91112 : Int32).toInt = (3 : Int32).toInt := (fun q => c_91116 (Int32.toInt_inj.mp q))
      have h_91118 : 1 ≤ (v_91112 : Int32).toInt ∧ (v_91112 : Int32).toInt ≤ 2 := nr_ne_l h_91114 (⟨by decide, by decide⟩ : 3 ≤ (3 : Int32).toInt ∧ (3 : Int32).toInt ≤ 3) c_91116_i (by decide) (by decide)
      refine lv_aload_n hx hb dX6_oneMoveMore_36 rfl (lv_at hl 0 rfl) ?_
      refine va_get (D := D) (ci := 6) (v := .ref n) (C := RX6) (T := TX6) (N := 4) hx hb hts inlX6 hown hK hP 0 rfl rfl 0 (by decide) (hts (Cond.fieldLink RX6 19 "ChanceRings$Solver" "net" "LChanceRings$Net;") qw_548) (fun _ h9 => h9) rfl dX6_oneMoveMore_37 ?_
      refine va_get (D := D) (ci := 2) (v := .ref n_held) (C := RX2) (T := TX2) (N := 8) hx hb hts inlX2 hown hK hP 1 rfl rfl 5 (by decide) (hts (Cond.fieldLink RX6 38 "ChanceRings$Net" "held" "[I") qw_550) (fun _ h9 => h9) rfl dX6_oneMoveMore_40 ?_
      refine lv_iload_n hx hb dX6_oneMoveMore_43 rfl (lv_at hl 1 rfl) ?_
      refine va_iald hx hb hK hP 4 0 rfl rfl (tr_in h_p0 (by decide) (by decide)) dX6_oneMoveMore_44 ?_
      refine lv_topi (fun v_91217 v_91217_e => ?_)
      have h_v_91217 : (-1) ≤ (v_91217 : Int32).toInt ∧ (v_91217 : Int32).toInt ≤ 2 := by rw [v_91217_e]; exact h_n_fheld _
      refine lv_iconst (v := (-1)) hx hb dX6_oneMoveMore_45 (by decide) ?_
      refine lv_icmp_ne (tgt := 53) hx hb dX6_oneMoveMore_46 (by decide) (fun c_91218 => ?_) (fun c_91218 => ?_)
      · skip
        have c_91218_i : ¬ (v_91217 : Int32).toInt = ((-1) : Int32).toInt := (fun q => c_91218 (Int32.toInt_inj.mp q))
        have h_91219 : 0 ≤ (v_91217 : Int32).toInt ∧ (v_91217 : Int32).toInt ≤ 2 := nr_ne_l h_v_91217 (⟨by decide, by decide⟩ : (-1) ≤ ((-1) : Int32).toInt ∧ ((-1) : Int32).toInt ≤ (-1)) c_91218_i (by decide) (by decide)
        refine lv_aload_n hx hb dX6_oneMoveMore_53 rfl (lv_at hl 0 rfl) ?_
        refine va_get (D := D) (ci := 6) (v := .ref n) (C := RX6) (T := TX6) (N := 4) hx hb hts inlX6 hown hK hP 0 rfl rfl 0 (by decide) (hts (Cond.fieldLink RX6 19 "ChanceRings$Solver" "net" "LChanceRings$Net;") qw_548) (fun _ h9 => h9) rfl dX6_oneMoveMore_54 ?_
        refine va_get (D := D) (ci := 2) (v := .ref n_held) (C := RX2) (T := TX2) (N := 8) hx hb hts inlX2 hown hK hP 1 rfl rfl 5 (by decide) (hts (Cond.fieldLink RX6 38 "ChanceRings$Net" "held" "[I") qw_550) (fun _ h9 => h9) rfl dX6_oneMoveMore_57 ?_
        refine lv_iload_n hx hb dX6_oneMoveMore_60 rfl (lv_at hl 1 rfl) ?_
        refine va_iald hx hb hK hP 4 0 rfl rfl (tr_in h_p0 (by decide) (by decide)) dX6_oneMoveMore_61 ?_
        refine tz_i (y := v_91217) v_91217_e.symm ?_
        refine lv_istore_n (lv' := [(3, .int v_91217), (0, .ref sv), (1, .int p0), (2, .ref vs)]) hx hb dX6_oneMoveMore_62 rfl hl (by decide) rfl (fun ls hl => ?_)
        refine lv_aload_n hx hb dX6_oneMoveMore_63 rfl (lv_at hl 1 rfl) ?_
        refine va_get (D := D) (ci := 6) (v := .ref n) (C := RX6) (T := TX6) (N := 4) hx hb hts inlX6 hown hK hP 0 rfl rfl 0 (by decide) (hts (Cond.fieldLink RX6 19 "ChanceRings$Solver" "net" "LChanceRings$Net;") qw_548) (fun _ h9 => h9) rfl dX6_oneMoveMore_64 ?_
        refine va_get (D := D) (ci := 2) (v := .ref n_held) (C := RX2) (T := TX2) (N := 8) hx hb hts inlX2 hown hK hP 1 rfl rfl 5 (by decide) (hts (Cond.fieldLink RX6 38 "ChanceRings$Net" "held" "[I") qw_550) (fun _ h9 => h9) rfl dX6_oneMoveMore_67 ?_
        refine lv_iload_n hx hb dX6_oneMoveMore_70 rfl (lv_at hl 2 rfl) ?_
        refine va_iald hx hb hK hP 4 0 rfl rfl (tr_in h_p0 (by decide) (by decide)) dX6_oneMoveMore_71 ?_
        refine tz_i (y := v_91217) v_91217_e.symm ?_
        refine lv_iconst (v := (-1)) hx hb dX6_oneMoveMore_72 (by decide) ?_
        refine lv_icmp_ne (tgt := 86) hx hb dX6_oneMoveMore_73 (by decide) (fun c_91221 => ?_) (fun h9 => (nr_x_eq h_91219 (⟨by decide, by decide⟩ : (-1) ≤ ((-1) : Int32).toInt ∧ ((-1) : Int32).toInt ≤ (-1)) (congrArg Int32.toInt h9) (by decide)).elim)
        refine lv_iload_n hx hb dX6_oneMoveMore_86 rfl (lv_at hl 0 rfl) ?_
        refine lv_istore (lv' := [(4, .int v_91217), (3, .int v_91217), (0, .ref sv), (1, .int p0), (2, .ref vs)]) hx hb dX6_oneMoveMore_87 hl (by decide) rfl (fun ls hl => ?_)
        refine lv_ldc2 (v := 12) hx hb hown (hts (Cond.constantLong RX6 109 (12)) qw_610) dX6_oneMoveMore_89 ?_
        refine lv_aload_n hx hb dX6_oneMoveMore_92 rfl (lv_at hl 4 rfl) ?_
        refine va_get (D := D) (ci := 10) (v := .ref vs_part) (C := RX10) (T := TX10) (N := 2) hx hb hts inlX10 hown hK hP 7 rfl rfl 0 (by decide) (hts (Cond.fieldLink RX6 71 "ChanceRings$Values" "part" "[J") qw_553) (fun _ h9 => h9) rfl dX6_oneMoveMore_93 ?_
        refine lv_aload_n hx hb dX6_oneMoveMore_96 rfl (lv_at hl 2 rfl) ?_
        refine va_get (D := D) (ci := 6) (v := .ref n) (C := RX6) (T := TX6) (N := 4) hx hb hts inlX6 hown hK hP 0 rfl rfl 0 (by decide) (hts (Cond.fieldLink RX6 19 "ChanceRings$Solver" "net" "LChanceRings$Net;") qw_548) (fun _ h9 => h9) rfl dX6_oneMoveMore_97 ?_
        refine lv_iload_n hx hb dX6_oneMoveMore_100 rfl (lv_at hl 3 rfl) ?_
        refine lv_iload hx hb dX6_oneMoveMore_101 (lv_at hl 0 rfl) ?_
        have hPc := hP.sub (ws' := [(n, .inr (2, [.int n_nodes, .ref n_kind, .ref n_pay, .ref n_name, .ref n_ways, .ref n_held, .ref n_targets, .ref n_weights])), (n_targets, .inl (g 0, 36, .inl n_ftargets))]) [1, 5] rfl
        refine vp_callSi (va_Run.run (va_runV (As := [.int p0, .int v_91217]) (rest := [.ref vs_part, .long 12]) ⟨hx, hb, hml, hown, hts⟩ (c_X2_target l D g n p0 v_91217 n_nodes n_kind n_pay n_name n_ways n_held n_targets n_weights n_ftargets (tr_w h_p0 (by decide) (by decide)) (tr_w h_91219 (by decide) (by decide)) (tr_w h_n_nodes (by decide) (by decide)) (tr_wa h_n_ftargets (by decide) (by decide))) (cwV 2 hts (tz_gV qw_554 qw_325 qw_326 qw_322 qw_327) rfl rfl rfl (by decide +kernel) ⟨Nat.le_of_ble_eq_true rfl, Nat.le_of_ble_eq_true rfl⟩) ⟨tz_blS, va_recv hK hPc (ci := 2) (q0 := 0) rfl rfl, tz_preS hPc hK⟩ rfl rfl hl.1 rfl (lv_room (Nat.le_of_ble_eq_true rfl)) dX6_oneMoveMore_103 ⟨Nat.le_of_ble_eq_true rfl, Nat.le_of_ble_eq_true rfl⟩)) (fun r_91222 hw => ?_)
        have hw_91223 : 0 ≤ (r_91222 : Int32).toInt ∧ (r_91222 : Int32).toInt ≤ 11 := hw
        refine va_lald hx hb hK hP 8 1 rfl rfl (tr_in hw_91223 (by decide) (by decide)) dX6_oneMoveMore_106 ?_
        refine lv_topl (fun w_91224 _ => ?_)
        refine lv_lmul hx hb dX6_oneMoveMore_107 ?_
        refine lv_topl (fun w_91225 _ => ?_)
        exact W.lret (v := w_91225) hx hb hr (fun t ht hW => ⟨w_91225, rfl, trivial, ht⟩) (fun _ h => nomatch h) dX6_oneMoveMore_108
      · skip
        have c_91218_i : (v_91217 : Int32).toInt = ((-1) : Int32).toInt := congrArg Int32.toInt c_91218
        have h_91220 : (-1) ≤ (v_91217 : Int32).toInt ∧ (v_91217 : Int32).toInt ≤ (-1) := nr_eq_l h_v_91217 (⟨by decide, by decide⟩ : (-1) ≤ ((-1) : Int32).toInt ∧ ((-1) : Int32).toInt ≤ (-1)) c_91218_i (by decide) (by decide)
        refine lv_iconst (v := 0) hx hb dX6_oneMoveMore_49 (by decide) ?_
        refine lv_goto (tgt := 62) hx hb dX6_oneMoveMore_50 (by decide) ?_
        refine lv_istore_n (lv' := [(3, .int 0), (0, .ref sv), (1, .int p0), (2, .ref vs)]) hx hb dX6_oneMoveMore_62 rfl hl (by decide) rfl (fun ls hl => ?_)
        refine lv_aload_n hx hb dX6_oneMoveMore_63 rfl (lv_at hl 1 rfl) ?_
        refine va_get (D := D) (ci := 6) (v := .ref n) (C := RX6) (T := TX6) (N := 4) hx hb hts inlX6 hown hK hP 0 rfl rfl 0 (by decide) (hts (Cond.fieldLink RX6 19 "ChanceRings$Solver" "net" "LChanceRings$Net;") qw_548) (fun _ h9 => h9) rfl dX6_oneMoveMore_64 ?_
        refine va_get (D := D) (ci := 2) (v := .ref n_held) (C := RX2) (T := TX2) (N := 8) hx hb hts inlX2 hown hK hP 1 rfl rfl 5 (by decide) (hts (Cond.fieldLink RX6 38 "ChanceRings$Net" "held" "[I") qw_550) (fun _ h9 => h9) rfl dX6_oneMoveMore_67 ?_
        refine lv_iload_n hx hb dX6_oneMoveMore_70 rfl (lv_at hl 2 rfl) ?_
        refine va_iald hx hb hK hP 4 0 rfl rfl (tr_in h_p0 (by decide) (by decide)) dX6_oneMoveMore_71 ?_
        refine tz_i (y := v_91217) v_91217_e.symm ?_
        refine lv_iconst (v := (-1)) hx hb dX6_oneMoveMore_72 (by decide) ?_
        refine lv_icmp_ne (tgt := 86) hx hb dX6_oneMoveMore_73 (by decide) (fun h9 => (nr_x_ne h_91220 (⟨by decide, by decide⟩ : (-1) ≤ ((-1) : Int32).toInt ∧ ((-1) : Int32).toInt ≤ (-1)) (fun q => h9 (Int32.toInt_inj.mp q)) (by decide)).elim) (fun c_91226 => ?_)
        refine lv_aload_n hx hb dX6_oneMoveMore_76 rfl (lv_at hl 1 rfl) ?_
        refine lv_iload_n hx hb dX6_oneMoveMore_77 rfl (lv_at hl 2 rfl) ?_
        refine lv_iload_n hx hb dX6_oneMoveMore_78 rfl (lv_at hl 0 rfl) ?_
        refine lv_aload_n hx hb dX6_oneMoveMore_79 rfl (lv_at hl 3 rfl) ?_
        have hPc := hP.sub (ws' := [(sv, .inr (6, [.ref n, .ref co, .ref sv_keep, .ref sv_scaled])), (n, .inr (2, [.int n_nodes, .ref n_kind, .ref n_pay, .ref n_name, .ref n_ways, .ref n_held, .ref n_targets, .ref n_weights])), (n_kind, .inl (g 0, 12, .inl n_fkind)), (n_ways, .inl (g 0, 12, .inl n_fways)), (n_targets, .inl (g 0, 36, .inl n_ftargets)), (vs, .inr (10, [.ref vs_part, .long vsw])), (vs_part, .inl (g 1, 12, .inr (.inl vsp)))]) [0, 1, 2, 3, 5, 7, 8] rfl
        refine vp_callSi (va_Run.run (va_runV (As := [.int p0, .int 0, .ref vs]) (rest := []) ⟨hx, hb, hml, hown, hts⟩ (c_X6_betterWay l D g sv p0 0 vs n co sv_keep sv_scaled n_nodes n_kind n_pay n_name n_ways n_held n_targets n_weights n_fkind n_fways n_ftargets vs_part vsw vsp (tr_w h_p0 (by decide) (by decide)) (⟨by decide, by decide⟩ : 0 ≤ (0 : Int32).toInt ∧ (0 : Int32).toInt ≤ 2) (tr_w h_n_nodes (by decide) (by decide)) (tr_wa h_n_fkind (by decide) (by decide)) (tr_wa h_n_fways (by decide) (by decide)) (tr_wa h_n_ftargets (by decide) (by decide))) (cwV 3 hts (tz_gV qw_555 qw_556 qw_557 qw_558 qw_559) rfl rfl rfl (by decide +kernel) ⟨Nat.le_of_ble_eq_true rfl, Nat.le_of_ble_eq_true rfl⟩) ⟨tz_blS, va_recv hK hPc (ci := 6) (q0 := 0) rfl rfl, tz_preS hPc hK⟩ rfl rfl hl.1 rfl (lv_room (Nat.le_of_ble_eq_true rfl)) dX6_oneMoveMore_80 ⟨Nat.le_of_ble_eq_true rfl, Nat.le_of_ble_eq_true rfl⟩)) (fun r_91227 hw => ?_)
        have hw_91228 : 0 ≤ (r_91227 : Int32).toInt ∧ (r_91227 : Int32).toInt ≤ 2 := hw
        refine lv_goto (tgt := 87) hx hb dX6_oneMoveMore_83 (by decide) ?_
        refine lv_istore (lv' := [(4, .int r_91227), (3, .int 0), (0, .ref sv), (1, .int p0), (2, .ref vs)]) hx hb dX6_oneMoveMore_87 hl (by decide) rfl (fun ls hl => ?_)
        refine lv_ldc2 (v := 12) hx hb hown (hts (Cond.constantLong RX6 109 (12)) qw_610) dX6_oneMoveMore_89 ?_
        refine lv_aload_n hx hb dX6_oneMoveMore_92 rfl (lv_at hl 4 rfl) ?_
        refine va_get (D := D) (ci := 10) (v := .ref vs_part) (C := RX10) (T := TX10) (N := 2) hx hb hts inlX10 hown hK hP 7 rfl rfl 0 (by decide) (hts (Cond.fieldLink RX6 71 "ChanceRings$Values" "part" "[J") qw_553) (fun _ h9 => h9) rfl dX6_oneMoveMore_93 ?_
        refine lv_aload_n hx hb dX6_oneMoveMore_96 rfl (lv_at hl 2 rfl) ?_
        refine va_get (D := D) (ci := 6) (v := .ref n) (C := RX6) (T := TX6) (N := 4) hx hb hts inlX6 hown hK hP 0 rfl rfl 0 (by decide) (hts (Cond.fieldLink RX6 19 "ChanceRings$Solver" "net" "LChanceRings$Net;") qw_548) (fun _ h9 => h9) rfl dX6_oneMoveMore_97 ?_
        refine lv_iload_n hx hb dX6_oneMoveMore_100 rfl (lv_at hl 3 rfl) ?_
        refine lv_iload hx hb dX6_oneMoveMore_101 (lv_at hl 0 rfl) ?_
        have hPc := hP.sub (ws' := [(n, .inr (2, [.int n_nodes, .ref n_kind, .ref n_pay, .ref n_name, .ref n_ways, .ref n_held, .ref n_targets, .ref n_weights])), (n_targets, .inl (g 0, 36, .inl n_ftargets))]) [1, 5] rfl
        refine vp_callSi (va_Run.run (va_runV (As := [.int p0, .int r_91227]) (rest := [.ref vs_part, .long 12]) ⟨hx, hb, hml, hown, hts⟩ (c_X2_target l D g n p0 r_91227 n_nodes n_kind n_pay n_name n_ways n_held n_targets n_weights n_ftargets (tr_w h_p0 (by decide) (by decide)) (tr_w hw_91228 (by decide) (by decide)) (tr_w h_n_nodes (by decide) (by decide)) (tr_wa h_n_ftargets (by decide) (by decide))) (cwV 2 hts (tz_gV qw_554 qw_325 qw_326 qw_322 qw_327) rfl rfl rfl (by decide +kernel) ⟨Nat.le_of_ble_eq_true rfl, Nat.le_of_ble_eq_true rfl⟩) ⟨tz_blS, va_recv hK hPc (ci := 2) (q0 := 0) rfl rfl, tz_preS hPc hK⟩ rfl rfl hl.1 rfl (lv_room (Nat.le_of_ble_eq_true rfl)) dX6_oneMoveMore_103 ⟨Nat.le_of_ble_eq_true rfl, Nat.le_of_ble_eq_true rfl⟩)) (fun r_91229 hw => ?_)
        have hw_91230 : 0 ≤ (r_91229 : Int32).toInt ∧ (r_91229 : Int32).toInt ≤ 11 := hw
        refine va_lald hx hb hK hP 8 1 rfl rfl (tr_in hw_91230 (by decide) (by decide)) dX6_oneMoveMore_106 ?_
        refine lv_topl (fun w_91231 _ => ?_)
        refine lv_lmul hx hb dX6_oneMoveMore_107 ?_
        refine lv_topl (fun w_91232 _ => ?_)
        exact W.lret (v := w_91232) hx hb hr (fun t ht hW => ⟨w_91232, rfl, trivial, ht⟩) (fun _ h => nomatch h) dX6_oneMoveMore_108
  · skip
    have c_91113_i : (v_91112 : Int32).toInt = (0 : Int32).toInt := congrArg Int32.toInt c_91113
    have h_91115 : 0 ≤ (v_91112 : Int32).toInt ∧ (v_91112 : Int32).toInt ≤ 0 := nr_eq_l h_v_91112 (⟨by decide, by decide⟩ : 0 ≤ (0 : Int32).toInt ∧ (0 : Int32).toInt ≤ 0) c_91113_i (by decide) (by decide)
    refine lv_ldc2 (v := 12) hx hb hown (hts (Cond.constantLong RX6 109 (12)) qw_610) dX6_oneMoveMore_12 ?_
    refine lv_aload_n hx hb dX6_oneMoveMore_15 rfl (lv_at hl 2 rfl) ?_
    refine va_get (D := D) (ci := 10) (v := .ref vs_part) (C := RX10) (T := TX10) (N := 2) hx hb hts inlX10 hown hK hP 7 rfl rfl 0 (by decide) (hts (Cond.fieldLink RX6 71 "ChanceRings$Values" "part" "[J") qw_553) (fun _ h9 => h9) rfl dX6_oneMoveMore_16 ?_
    refine lv_iload_n hx hb dX6_oneMoveMore_19 rfl (lv_at hl 1 rfl) ?_
    refine va_lald hx hb hK hP 8 1 rfl rfl (tr_in h_p0 (by decide) (by decide)) dX6_oneMoveMore_20 ?_
    refine lv_topl (fun w_91233 _ => ?_)
    refine lv_lmul hx hb dX6_oneMoveMore_21 ?_
    refine lv_topl (fun w_91234 _ => ?_)
    exact W.lret (v := w_91234) hx hb hr (fun t ht hW => ⟨w_91234, rfl, trivial, ht⟩) (fun _ h => nomatch h) dX6_oneMoveMore_22
