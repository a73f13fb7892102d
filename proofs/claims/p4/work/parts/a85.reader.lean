theorem qw_937 : Cond.methodLink RX4 3 objectInit ∈ wsL_law := tseg_1 (by decide +kernel) (List.mem_of_getElem? (i := 115) (by decide +kernel))
theorem qw_938 : Cond.code yX11_pack cX11_pack 3 (some .int) ∈ wsL_law := tseg_1 (by decide +kernel) (List.mem_of_getElem? (i := 119) (by decide +kernel))
theorem qw_939 : Cond.static yX11_pack ∈ wsL_law := tseg_1 (by decide +kernel) (List.mem_of_getElem? (i := 118) (by decide +kernel))
theorem dX4_init_0 : decode cX4_init 0 = .ok (.aload_n 0, 1) := by decide +kernel
theorem dX4_init_1 : decode cX4_init 1 = .ok (.invokespecial 3, 3) := by decide +kernel
theorem dX4_init_4 : decode cX4_init 4 = .ok (.aload_n 0, 1) := by decide +kernel
theorem dX4_init_5 : decode cX4_init 5 = .ok (.aload_n 1, 1) := by decide +kernel
theorem dX4_init_6 : decode cX4_init 6 = .ok (.putfield 9, 3) := by decide +kernel
theorem dX4_init_9 : decode cX4_init 9 = .ok (.aload_n 0, 1) := by decide +kernel
theorem dX4_init_10 : decode cX4_init 10 = .ok (.aload_n 2, 1) := by decide +kernel
theorem dX4_init_11 : decode cX4_init 11 = .ok (.putfield 15, 3) := by decide +kernel
theorem dX4_init_14 : decode cX4_init 14 = .ok (.aload_n 0, 1) := by decide +kernel
theorem dX4_init_15 : decode cX4_init 15 = .ok (.iconst 4, 1) := by decide +kernel
theorem dX4_init_16 : decode cX4_init 16 = .ok (.newarray .int, 2) := by decide +kernel
theorem dX4_init_18 : decode cX4_init 18 = .ok (.dup, 1) := by decide +kernel
theorem dX4_init_19 : decode cX4_init 19 = .ok (.iconst 0, 1) := by decide +kernel
theorem dX4_init_20 : decode cX4_init 20 = .ok (.ldc 19, 2) := by decide +kernel
theorem dX4_init_22 : decode cX4_init 22 = .ok (.invokestatic 21, 3) := by decide +kernel
theorem dX4_init_25 : decode cX4_init 25 = .ok (.iastore, 1) := by decide +kernel
theorem dX4_init_26 : decode cX4_init 26 = .ok (.dup, 1) := by decide +kernel
theorem dX4_init_27 : decode cX4_init 27 = .ok (.iconst 1, 1) := by decide +kernel
theorem dX4_init_28 : decode cX4_init 28 = .ok (.ldc 25, 2) := by decide +kernel
theorem dX4_init_30 : decode cX4_init 30 = .ok (.invokestatic 21, 3) := by decide +kernel
theorem dX4_init_33 : decode cX4_init 33 = .ok (.iastore, 1) := by decide +kernel
theorem dX4_init_34 : decode cX4_init 34 = .ok (.dup, 1) := by decide +kernel
theorem dX4_init_35 : decode cX4_init 35 = .ok (.iconst 2, 1) := by decide +kernel
theorem dX4_init_36 : decode cX4_init 36 = .ok (.ldc 27, 2) := by decide +kernel
theorem dX4_init_38 : decode cX4_init 38 = .ok (.invokestatic 21, 3) := by decide +kernel
theorem dX4_init_41 : decode cX4_init 41 = .ok (.iastore, 1) := by decide +kernel
theorem dX4_init_42 : decode cX4_init 42 = .ok (.dup, 1) := by decide +kernel
theorem dX4_init_43 : decode cX4_init 43 = .ok (.iconst 3, 1) := by decide +kernel
theorem dX4_init_44 : decode cX4_init 44 = .ok (.ldc 29, 2) := by decide +kernel
theorem dX4_init_46 : decode cX4_init 46 = .ok (.invokestatic 21, 3) := by decide +kernel
theorem dX4_init_49 : decode cX4_init 49 = .ok (.iastore, 1) := by decide +kernel
theorem dX4_init_50 : decode cX4_init 50 = .ok (.putfield 31, 3) := by decide +kernel
theorem dX4_init_53 : decode cX4_init 53 = .ok (.aload_n 0, 1) := by decide +kernel
theorem dX4_init_54 : decode cX4_init 54 = .ok (.ldc 35, 2) := by decide +kernel
theorem dX4_init_56 : decode cX4_init 56 = .ok (.invokestatic 21, 3) := by decide +kernel
theorem dX4_init_59 : decode cX4_init 59 = .ok (.putfield 37, 3) := by decide +kernel
theorem dX4_init_62 : decode cX4_init 62 = .ok (.return_, 1) := by decide +kernel
set_option maxHeartbeats 4000000 in
set_option maxRecDepth 100000 in
theorem c_X4_init (l : Launch) (D : va_G) (g : Nat → ClassId) (sz : Nat) (ka kv : Nat → Nat) (ff : Nat → Nat → Int32) (rd : Nat) (tp : Nat) (d : Nat) (hff : FFs ff) : Met l yX4_init (.code yX4_init cX4_init 3 none :: wsL_law) ({ frames := 5, cells := 1, slots := 4, locals := 107 }) (va_Pc [.ref rd, .ref tp, .ref d] (fun U => U.heap.size = sz ∧ va_P D vwCl [(rd, .inr (4, [.null, .null, .null, .int 0, .int 0, .int 0, .int 0, .int 0, .int 0, .int 0]))] U.heap ∧ va_K D vwCl (TY g) U ∧ va_D (fun _ => True) [(rd, .inr (4, [.null, .null, .null, .int 0, .int 0, .int 0, .int 0, .int 0, .int 0, .int 0]))] ∧ ZI ka kv ff (va_A [(rd, .inr (4, [.null, .null, .null, .int 0, .int 0, .int 0, .int 0, .int 0, .int 0, .int 0]))] sz) U U.heap)) (va_Qv (fun (_ : Unit) => True) (fun _ t => ∃ rd_kindWords : Nat, ∃ ww : Int32, ∃ kwf : Nat → Int32, (KWs kwf) ∧ ((ww : Int32).toInt = 16819) ∧ va_P D vwCl [(rd, .inr (4, [.ref tp, .ref d, .ref rd_kindWords, .int ww, .int 0, .int 0, .int 0, .int 0, .int 0, .int 0])), (rd_kindWords, .inl (g 0, 4, .inl kwf))] t.heap ∧ va_D (va_A [(rd, .inr (4, [.null, .null, .null, .int 0, .int 0, .int 0, .int 0, .int 0, .int 0, .int 0]))] sz) [(rd, .inr (4, [.ref tp, .ref d, .ref rd_kindWords, .int ww, .int 0, .int 0, .int 0, .int 0, .int 0, .int 0])), (rd_kindWords, .inl (g 0, 4, .inl kwf))]) (va_A [(rd, .inr (4, [.null, .null, .null, .int 0, .int 0, .int 0, .int 0, .int 0, .int 0, .int 0]))] sz)) 1 4 (va_A [(rd, .inr (4, [.null, .null, .null, .int 0, .int 0, .int 0, .int 0, .int 0, .int 0, .int 0]))] sz) := by
  refine Met.ofW (cc := cX4_init) (maxL := 3) (ret := none) (by decide) rfl ?_
  intro p e s m args below meth c s₁ B hml hv
  obtain ⟨rfl, hsz, hP, hK, hD0, hZ⟩ := hv
  have hx := B.exec
  have hb := B.bytes
  have hr := B.returns
  have hts0 := atoms_spec (ws := (.code yX4_init cX4_init 3 none :: wsL_law)) B.pre
  have hts : ∀ w ∈ wsL_law, w.before _ s = true := fun w h => hts0 w (List.mem_cons_of_mem _ h)
  have hown : s.vm.findClass RX4 = some m.cls := findClass_of_methodNamed B.named
  have hlocks := B.notSynchronized
  have hin : meth.name = "<init>" := (name_of_methodNamed B.named B.method).1
  subst hsz
  have hD := hD0.self (sz := s.heap.size)
  generalize hAe : va_A [(rd, .inr (4, [.null, .null, .null, .int 0, .int 0, .int 0, .int 0, .int 0, .int 0, .int 0]))] s.heap.size = A at hD hZ ⊢
  have hA : ∀ q : Nat, s.heap.size ≤ q → A q := fun q h => by rw [← hAe]; exact Or.inr h
  have hS : va_S A s.heap s.heap [] := va_S.rf
  have hP : va_P D vwCl [(rd, .inr (4, [.null, .null, .null, .int 0, .int 0, .int 0, .int 0, .int 0, .int 0, .int 0]))] s.heap := hP
  have hl := lv_entry ([.ref rd, .ref tp, .ref d]) (n := 3) (Nat.le_of_ble_eq_true rfl)
  rw [lg_entry_eq]
  generalize (lg_sl ([.ref rd, .ref tp, .ref d]) ++ List.replicate (3 - (lg_sl ([.ref rd, .ref tp, .ref d])).length) Slot.unset).toArray = ls at hl ⊢
  have hl : lv_has ls 3 [(0, .ref rd), (1, .ref tp), (2, .ref d)] := hl
  refine lv_aload_n hx hb dX4_init_0 rfl (lv_at hl 0 rfl) ?_
  refine W.objInit hx hb hown (hts (Cond.methodLink RX4 3 objectInit) qw_937) (hts (Cond.instanceMethod objectInit) qw_911) (hts (Cond.code objectInit ⟨#[0xb1]⟩ 1 none) qw_912) rfl (by rw [hml]; exact hl.1) rfl dX4_init_1 (Nat.le_of_ble_eq_true rfl) (Nat.le_of_ble_eq_true rfl) ?_
  refine W.eq (g2 := F0 m 4 ls []) rfl ?_
  refine lv_aload_n hx hb dX4_init_4 rfl (lv_at hl 0 rfl) ?_
  refine lv_aload_n hx hb dX4_init_5 rfl (lv_at hl 1 rfl) ?_
  refine va_putF (D := D) (ci := 4) (v := .ref tp) (ty := .object "ChanceRings$Tape") (C := RX4) (T := TX4) (N := 10) hx hb hts inlX4 tyX4 tyX4_ok nmX4 hown hK hP hD hS 0 rfl rfl 0 (by decide) (hts (Cond.fieldLink RX4 9 "ChanceRings$Reader" "tape" "LChanceRings$Tape;") qw_387) (fun _ h9 => h9) rfl hin rfl (by decide +kernel) rfl rfl (Nat.le_of_ble_eq_true rfl) dX4_init_6 (fun H locs hP hD hS => ?_)
  have hP : va_P D vwCl [(rd, .inr (4, [.ref tp, .null, .null, .int 0, .int 0, .int 0, .int 0, .int 0, .int 0, .int 0]))] H := hP
  have hD : va_D A [(rd, .inr (4, [.ref tp, .null, .null, .int 0, .int 0, .int 0, .int 0, .int 0, .int 0, .int 0]))] := hD
  refine lv_aload_n hx hb dX4_init_9 rfl (lv_at hl 0 rfl) ?_
  refine lv_aload_n hx hb dX4_init_10 rfl (lv_at hl 2 rfl) ?_
  refine va_putF (D := D) (ci := 4) (v := .ref d) (ty := .object "ChanceRings$Net") (C := RX4) (T := TX4) (N := 10) hx hb hts inlX4 tyX4 tyX4_ok nmX4 hown hK hP hD hS 0 rfl rfl 1 (by decide) (hts (Cond.fieldLink RX4 15 "ChanceRings$Reader" "net" "LChanceRings$Net;") qw_408) (fun _ h9 => h9) rfl hin rfl (by decide +kernel) rfl rfl (Nat.le_of_ble_eq_true rfl) dX4_init_11 (fun H locs hP hD hS => ?_)
  have hP : va_P D vwCl [(rd, .inr (4, [.ref tp, .ref d, .null, .int 0, .int 0, .int 0, .int 0, .int 0, .int 0, .int 0]))] H := hP
  have hD : va_D A [(rd, .inr (4, [.ref tp, .ref d, .null, .int 0, .int 0, .int 0, .int 0, .int 0, .int 0, .int 0]))] := hD
  refine lv_aload_n hx hb dX4_init_14 rfl (lv_at hl 0 rfl) ?_
  refine lv_iconst (v := 4) hx hb dX4_init_15 (by decide) ?_
  refine va_newa (atype := .int) (ty := .int) (N' := 4) (a0 := (4, .inl (fun _ => 0))) hx hb (hts (Cond.arrayClass .int) qw_913) rfl hK hP hD hS hA (fun _ => rfl) (by decide) (by decide +kernel) (by decide) (Nat.le_of_ble_eq_true rfl) (Nat.le_of_ble_eq_true rfl) dX4_init_16 (fun q_117789 cA H hK9 hP hD hS => ?_)
  obtain rfl : cA = g 0 := tz_clsI hK hK9
  have hP : va_P D vwCl [(rd, .inr (4, [.ref tp, .ref d, .null, .int 0, .int 0, .int 0, .int 0, .int 0, .int 0, .int 0])), (q_117789, .inl (g 0, 4, .inl (fun _ => 0)))] H := hP
  have hD : va_D A [(rd, .inr (4, [.ref tp, .ref d, .null, .int 0, .int 0, .int 0, .int 0, .int 0, .int 0, .int 0])), (q_117789, .inl (g 0, 4, .inl (fun _ => 0)))] := hD
  refine W.widen (k := 1) (n := 4) (by decide) (by decide) ?_
  refine lv_dup hx hb dX4_init_18 rfl ?_
  refine lv_iconst (v := 0) hx hb dX4_init_19 (by decide) ?_
  refine va_ldcS hx hb hown hZ.2.2.2.2.2.2.2.2.2.2.1.1 dX4_init_20 ?_
  refine vp_callSi (va_Run.run (va_runSN (As := [.ref (ka 0)]) (rest := [.int 0, .ref q_117789, .ref q_117789, .ref rd]) ⟨hx, hb, hml, hown, hts⟩ (c_X11_pack_3 l (ka 0) (kv 0) (ff 0) A) ⟨va_cnB 1 hts (tz_gC qw_938) rfl rfl rfl hZ.2.2.2.2.1 (hts (Cond.initialized RX11) qw_730) (by decide +kernel) ⟨Nat.le_of_ble_eq_true rfl, Nat.le_of_ble_eq_true rfl⟩, (hts (Cond.static yX11_pack) qw_939), trivial⟩ ⟨tz_blJ, tz_preJ (hZ.2.2.2.2.2.2.2.2.2.2.1.2.kept hS.2.1)⟩ rfl rfl hl.1 rfl (lv_room (Nat.le_of_ble_eq_true rfl)) dX4_init_22 ⟨Nat.le_of_ble_eq_true rfl, Nat.le_of_ble_eq_true rfl⟩)) (fun r_117790 r_117790_w => ?_)
  refine va_iast hx hb hK hP hD hS 1 0 rfl rfl (tz_in (by decide +kernel)) dX4_init_25 (fun H locs hP hD hS => ?_)
  obtain ⟨f_117791, f_117791_e, hP, hD⟩ : ∃ FX : Nat → Int32, FX = upd (fun _ => 0) (0 : Int32).toNatClampNeg r_117790 ∧ va_P D vwCl [(rd, .inr (4, [.ref tp, .ref d, .null, .int 0, .int 0, .int 0, .int 0, .int 0, .int 0, .int 0])), (q_117789, .inl (g 0, 4, .inl FX))] H ∧ va_D A [(rd, .inr (4, [.ref tp, .ref d, .null, .int 0, .int 0, .int 0, .int 0, .int 0, .int 0, .int 0])), (q_117789, .inl (g 0, 4, .inl FX))] := ⟨_, rfl, hP, hD⟩
  have hP : va_P D vwCl [(rd, .inr (4, [.ref tp, .ref d, .null, .int 0, .int 0, .int 0, .int 0, .int 0, .int 0, .int 0])), (q_117789, .inl (g 0, 4, .inl f_117791))] H := hP
  have hD : va_D A [(rd, .inr (4, [.ref tp, .ref d, .null, .int 0, .int 0, .int 0, .int 0, .int 0, .int 0, .int 0])), (q_117789, .inl (g 0, 4, .inl f_117791))] := hD
  refine lv_dup hx hb dX4_init_26 rfl ?_
  refine lv_iconst (v := 1) hx hb dX4_init_27 (by decide) ?_
  refine va_ldcS hx hb hown hZ.2.2.2.2.2.2.2.2.2.2.2.1.1 dX4_init_28 ?_
  refine vp_callSi (va_Run.run (va_runSN (As := [.ref (ka 1)]) (rest := [.int 1, .ref q_117789, .ref q_117789, .ref rd]) ⟨hx, hb, hml, hown, hts⟩ (c_X11_pack_3 l (ka 1) (kv 1) (ff 1) A) ⟨va_cnB 1 hts (tz_gC qw_938) rfl rfl rfl hZ.2.2.2.2.1 (hts (Cond.initialized RX11) qw_730) (by decide +kernel) ⟨Nat.le_of_ble_eq_true rfl, Nat.le_of_ble_eq_true rfl⟩, (hts (Cond.static yX11_pack) qw_939), trivial⟩ ⟨tz_blJ, tz_preJ (hZ.2.2.2.2.2.2.2.2.2.2.2.1.2.kept hS.2.1)⟩ rfl rfl hl.1 rfl (lv_room (Nat.le_of_ble_eq_true rfl)) dX4_init_30 ⟨Nat.le_of_ble_eq_true rfl, Nat.le_of_ble_eq_true rfl⟩)) (fun r_117792 r_117792_w => ?_)
  refine va_iast hx hb hK hP hD hS 1 0 rfl rfl (tz_in (by decide +kernel)) dX4_init_33 (fun H locs hP hD hS => ?_)
  obtain ⟨f_117793, f_117793_e, hP, hD⟩ : ∃ FX : Nat → Int32, FX = upd f_117791 (1 : Int32).toNatClampNeg r_117792 ∧ va_P D vwCl [(rd, .inr (4, [.ref tp, .ref d, .null, .int 0, .int 0, .int 0, .int 0, .int 0, .int 0, .int 0])), (q_117789, .inl (g 0, 4, .inl FX))] H ∧ va_D A [(rd, .inr (4, [.ref tp, .ref d, .null, .int 0, .int 0, .int 0, .int 0, .int 0, .int 0, .int 0])), (q_117789, .inl (g 0, 4, .inl FX))] := ⟨_, rfl, hP, hD⟩
  have hP : va_P D vwCl [(rd, .inr (4, [.ref tp, .ref d, .null, .int 0, .int 0, .int 0, .int 0, .int 0, .int 0, .int 0])), (q_117789, .inl (g 0, 4, .inl f_117793))] H := hP
  have hD : va_D A [(rd, .inr (4, [.ref tp, .ref d, .null, .int 0, .int 0, .int 0, .int 0, .int 0, .int 0, .int 0])), (q_117789, .inl (g 0, 4, .inl f_117793))] := hD
  refine lv_dup hx hb dX4_init_34 rfl ?_
  refine lv_iconst (v := 2) hx hb dX4_init_35 (by decide) ?_
  refine va_ldcS hx hb hown hZ.2.2.2.2.2.2.2.2.2.2.2.2.1.1 dX4_init_36 ?_
  refine vp_callSi (va_Run.run (va_runSN (As := [.ref (ka 2)]) (rest := [.int 2, .ref q_117789, .ref q_117789, .ref rd]) ⟨hx, hb, hml, hown, hts⟩ (c_X11_pack_3 l (ka 2) (kv 2) (ff 2) A) ⟨va_cnB 1 hts (tz_gC qw_938) rfl rfl rfl hZ.2.2.2.2.1 (hts (Cond.initialized RX11) qw_730) (by decide +kernel) ⟨Nat.le_of_ble_eq_true rfl, Nat.le_of_ble_eq_true rfl⟩, (hts (Cond.static yX11_pack) qw_939), trivial⟩ ⟨tz_blJ, tz_preJ (hZ.2.2.2.2.2.2.2.2.2.2.2.2.1.2.kept hS.2.1)⟩ rfl rfl hl.1 rfl (lv_room (Nat.le_of_ble_eq_true rfl)) dX4_init_38 ⟨Nat.le_of_ble_eq_true rfl, Nat.le_of_ble_eq_true rfl⟩)) (fun r_117794 r_117794_w => ?_)
  refine va_iast hx hb hK hP hD hS 1 0 rfl rfl (tz_in (by decide +kernel)) dX4_init_41 (fun H locs hP hD hS => ?_)
  obtain ⟨f_117795, f_117795_e, hP, hD⟩ : ∃ FX : Nat → Int32, FX = upd f_117793 (2 : Int32).toNatClampNeg r_117794 ∧ va_P D vwCl [(rd, .inr (4, [.ref tp, .ref d, .null, .int 0, .int 0, .int 0, .int 0, .int 0, .int 0, .int 0])), (q_117789, .inl (g 0, 4, .inl FX))] H ∧ va_D A [(rd, .inr (4, [.ref tp, .ref d, .null, .int 0, .int 0, .int 0, .int 0, .int 0, .int 0, .int 0])), (q_117789, .inl (g 0, 4, .inl FX))] := ⟨_, rfl, hP, hD⟩
  have hP : va_P D vwCl [(rd, .inr (4, [.ref tp, .ref d, .null, .int 0, .int 0, .int 0, .int 0, .int 0, .int 0, .int 0])), (q_117789, .inl (g 0, 4, .inl f_117795))] H := hP
  have hD : va_D A [(rd, .inr (4, [.ref tp, .ref d, .null, .int 0, .int 0, .int 0, .int 0, .int 0, .int 0, .int 0])), (q_117789, .inl (g 0, 4, .inl f_117795))] := hD
  refine lv_dup hx hb dX4_init_42 rfl ?_
  refine lv_iconst (v := 3) hx hb dX4_init_43 (by decide) ?_
  refine va_ldcS hx hb hown hZ.2.2.2.2.2.2.2.2.2.2.2.2.2.1.1 dX4_init_44 ?_
  refine vp_callSi (va_Run.run (va_runSN (As := [.ref (ka 3)]) (rest := [.int 3, .ref q_117789, .ref q_117789, .ref rd]) ⟨hx, hb, hml, hown, hts⟩ (c_X11_pack_6 l (ka 3) (kv 3) (ff 3) A) ⟨va_cnB 1 hts (tz_gC qw_938) rfl rfl rfl hZ.2.2.2.2.1 (hts (Cond.initialized RX11) qw_730) (by decide +kernel) ⟨Nat.le_of_ble_eq_true rfl, Nat.le_of_ble_eq_true rfl⟩, (hts (Cond.static yX11_pack) qw_939), trivial⟩ ⟨tz_blJ, tz_preJ (hZ.2.2.2.2.2.2.2.2.2.2.2.2.2.1.2.kept hS.2.1)⟩ rfl rfl hl.1 rfl (lv_room (Nat.le_of_ble_eq_true rfl)) dX4_init_46 ⟨Nat.le_of_ble_eq_true rfl, Nat.le_of_ble_eq_true rfl⟩)) (fun r_117796 r_117796_w => ?_)
  refine va_iast hx hb hK hP hD hS 1 0 rfl rfl (tz_in (by decide +kernel)) dX4_init_49 (fun H locs hP hD hS => ?_)
  obtain ⟨f_117797, f_117797_e, hP, hD⟩ : ∃ FX : Nat → Int32, FX = upd f_117795 (3 : Int32).toNatClampNeg r_117796 ∧ va_P D vwCl [(rd, .inr (4, [.ref tp, .ref d, .null, .int 0, .int 0, .int 0, .int 0, .int 0, .int 0, .int 0])), (q_117789, .inl (g 0, 4, .inl FX))] H ∧ va_D A [(rd, .inr (4, [.ref tp, .ref d, .null, .int 0, .int 0, .int 0, .int 0, .int 0, .int 0, .int 0])), (q_117789, .inl (g 0, 4, .inl FX))] := ⟨_, rfl, hP, hD⟩
  have hP : va_P D vwCl [(rd, .inr (4, [.ref tp, .ref d, .null, .int 0, .int 0, .int 0, .int 0, .int 0, .int 0, .int 0])), (q_117789, .inl (g 0, 4, .inl f_117797))] H := hP
  have hD : va_D A [(rd, .inr (4, [.ref tp, .ref d, .null, .int 0, .int 0, .int 0, .int 0, .int 0, .int 0, .int 0])), (q_117789, .inl (g 0, 4, .inl f_117797))] := hD
  refine va_putF (D := D) (ci := 4) (v := .ref q_117789) (ty := .array .int) (C := RX4) (T := TX4) (N := 10) hx hb hts inlX4 tyX4 tyX4_ok nmX4 hown hK hP hD hS 0 rfl rfl 2 (by decide) (hts (Cond.fieldLink RX4 31 "ChanceRings$Reader" "kindWords" "[I") qw_402) (fun _ h9 => h9) rfl hin rfl (by decide +kernel) rfl rfl (Nat.le_of_ble_eq_true rfl) dX4_init_50 (fun H locs hP hD hS => ?_)
  have hP : va_P D vwCl [(rd, .inr (4, [.ref tp, .ref d, .ref q_117789, .int 0, .int 0, .int 0, .int 0, .int 0, .int 0, .int 0])), (q_117789, .inl (g 0, 4, .inl f_117797))] H := hP
  have hD : va_D A [(rd, .inr (4, [.ref tp, .ref d, .ref q_117789, .int 0, .int 0, .int 0, .int 0, .int 0, .int 0, .int 0])), (q_117789, .inl (g 0, 4, .inl f_117797))] := hD
  refine lv_aload_n hx hb dX4_init_53 rfl (lv_at hl 0 rfl) ?_
  refine va_ldcS hx hb hown hZ.2.2.2.2.2.2.2.2.2.2.2.2.2.2.1 dX4_init_54 ?_
  refine vp_callSi (va_Run.run (va_runSN (As := [.ref (ka 4)]) (rest := [.ref rd]) ⟨hx, hb, hml, hown, hts⟩ (c_X11_pack_3 l (ka 4) (kv 4) (ff 4) A) ⟨va_cnB 1 hts (tz_gC qw_938) rfl rfl rfl hZ.2.2.2.2.1 (hts (Cond.initialized RX11) qw_730) (by decide +kernel) ⟨Nat.le_of_ble_eq_true rfl, Nat.le_of_ble_eq_true rfl⟩, (hts (Cond.static yX11_pack) qw_939), trivial⟩ ⟨tz_blJ, tz_preJ (hZ.2.2.2.2.2.2.2.2.2.2.2.2.2.2.2.kept hS.2.1)⟩ rfl rfl hl.1 rfl (lv_room (Nat.le_of_ble_eq_true rfl)) dX4_init_56 ⟨Nat.le_of_ble_eq_true rfl, Nat.le_of_ble_eq_true rfl⟩)) (fun r_117798 r_117798_w => ?_)
  refine va_putF (D := D) (ci := 4) (v := .int r_117798) (ty := .int) (C := RX4) (T := TX4) (N := 10) hx hb hts inlX4 tyX4 tyX4_ok nmX4 hown hK hP hD hS 0 rfl rfl 3 (by decide) (hts (Cond.fieldLink RX4 37 "ChanceRings$Reader" "wayWord" "I") qw_403) (fun _ h9 => h9) rfl hin rfl (by decide +kernel) rfl rfl (Nat.le_of_ble_eq_true rfl) dX4_init_59 (fun H locs hP hD hS => ?_)
  have hP : va_P D vwCl [(rd, .inr (4, [.ref tp, .ref d, .ref q_117789, .int r_117798, .int 0, .int 0, .int 0, .int 0, .int 0, .int 0])), (q_117789, .inl (g 0, 4, .inl f_117797))] H := hP
  have hD : va_D A [(rd, .inr (4, [.ref tp, .ref d, .ref q_117789, .int r_117798, .int 0, .int 0, .int 0, .int 0, .int 0, .int 0])), (q_117789, .inl (g 0, 4, .inl f_117797))] := hD
  have hP9 := hP.sub (ws' := [(rd, .inr (4, [.ref tp, .ref d, .ref q_117789, .int r_117798, .int 0, .int 0, .int 0, .int 0, .int 0, .int 0])), (q_117789, .inl (g 0, 4, .inl f_117797))]) [0, 1] rfl
  have hD9 := hD.sub (ws' := [(rd, .inr (4, [.ref tp, .ref d, .ref q_117789, .int r_117798, .int 0, .int 0, .int 0, .int 0, .int 0, .int 0])), (q_117789, .inl (g 0, 4, .inl f_117797))]) [0, 1] (by decide) rfl
  exact W.vret hx hb hr (fun t ht hW => ⟨⟨(), rfl, trivial, q_117789, r_117798, f_117797, (kws_of hff f_117791_e f_117793_e f_117795_e f_117797_e r_117790_w r_117792_w r_117794_w r_117796_w), (ww_of hff r_117798_w), by rw [ht]; exact hP9, hD9⟩, hS.F ht⟩) hS.2.2 dX4_init_62
theorem qw_940 : Cond.methodLink RX11 1 objectInit ∈ wsL_law := tseg_1 (by decide +kernel) (List.mem_of_getElem? (i := 28) (by decide +kernel))
theorem qw_941 : Cond.classLink RX11 7 RX8 ∈ wsL_law := tseg_1 (by decide +kernel) (List.mem_of_getElem? (i := 31) (by decide +kernel))
theorem qw_942 : Cond.instantiable RX8 2 ∈ wsL_law := tseg_1 (by decide +kernel) (List.mem_of_getElem? (i := 32) (by decide +kernel))
theorem qw_943 : Cond.code yX8_init cX8_init 1 none ∈ wsL_law := tseg_1 (by decide +kernel) (List.mem_of_getElem? (i := 35) (by decide +kernel))
theorem qw_944 : Cond.instanceMethod yX8_init ∈ wsL_law := tseg_1 (by decide +kernel) (List.mem_of_getElem? (i := 34) (by decide +kernel))
theorem qw_945 : Cond.classLink RX11 16 RX2 ∈ wsL_law := tseg_1 (by decide +kernel) (List.mem_of_getElem? (i := 48) (by decide +kernel))
theorem qw_946 : Cond.instantiable RX2 8 ∈ wsL_law := tseg_1 (by decide +kernel) (List.mem_of_getElem? (i := 49) (by decide +kernel))
theorem qw_947 : Cond.code yX2_init cX2_init 1 none ∈ wsL_law := tseg_1 (by decide +kernel) (List.mem_of_getElem? (i := 52) (by decide +kernel))
theorem qw_948 : Cond.instanceMethod yX2_init ∈ wsL_law := tseg_1 (by decide +kernel) (List.mem_of_getElem? (i := 51) (by decide +kernel))
theorem qw_949 : Cond.arrayClass .boolean ∈ wsL_law := tseg_1 (by decide +kernel) (List.mem_of_getElem? (i := 207) (by decide +kernel))
theorem qw_950 : Cond.classLink RX11 34 RX4 ∈ wsL_law := tseg_1 (by decide +kernel) (List.mem_of_getElem? (i := 110) (by decide +kernel))
theorem qw_951 : Cond.instantiable RX4 10 ∈ wsL_law := tseg_1 (by decide +kernel) (List.mem_of_getElem? (i := 111) (by decide +kernel))
theorem qw_952 : Cond.code yX4_init cX4_init 3 none ∈ wsL_law := tseg_1 (by decide +kernel) (List.mem_of_getElem? (i := 114) (by decide +kernel))
theorem qw_953 : Cond.methodLink RX11 36 yX4_init ∈ wsL_law := tseg_1 (by decide +kernel) (List.mem_of_getElem? (i := 112) (by decide +kernel))
theorem qw_954 : Cond.instanceMethod yX4_init ∈ wsL_law := tseg_1 (by decide +kernel) (List.mem_of_getElem? (i := 113) (by decide +kernel))
theorem qw_955 : Cond.classLink RX11 43 RX7 ∈ wsL_law := tseg_1 (by decide +kernel) (List.mem_of_getElem? (i := 209) (by decide +kernel))
theorem qw_956 : Cond.instantiable RX7 5 ∈ wsL_law := tseg_1 (by decide +kernel) (List.mem_of_getElem? (i := 210) (by decide +kernel))
theorem qw_957 : Cond.code yX7_init cX7_init 1 none ∈ wsL_law := tseg_1 (by decide +kernel) (List.mem_of_getElem? (i := 213) (by decide +kernel))
theorem qw_958 : Cond.instanceMethod yX7_init ∈ wsL_law := tseg_1 (by decide +kernel) (List.mem_of_getElem? (i := 212) (by decide +kernel))
theorem qw_959 : Cond.classLink RX11 50 RX9 ∈ wsL_law := tseg_1 (by decide +kernel) (List.mem_of_getElem? (i := 232) (by decide +kernel))
theorem qw_960 : Cond.instantiable RX9 2 ∈ wsL_law := tseg_1 (by decide +kernel) (List.mem_of_getElem? (i := 233) (by decide +kernel))
theorem qw_961 : Cond.code yX9_init cX9_init 1 none ∈ wsL_law := tseg_1 (by decide +kernel) (List.mem_of_getElem? (i := 236) (by decide +kernel))
theorem qw_962 : Cond.instanceMethod yX9_init ∈ wsL_law := tseg_1 (by decide +kernel) (List.mem_of_getElem? (i := 235) (by decide +kernel))
theorem qw_963 : Cond.classLink RX11 57 RX5 ∈ wsL_law := tseg_2 (by decide +kernel) (List.mem_of_getElem? (i := 7) (by decide +kernel))
theorem qw_964 : Cond.instantiable RX5 1 ∈ wsL_law := tseg_2 (by decide +kernel) (List.mem_of_getElem? (i := 8) (by decide +kernel))
theorem qw_965 : Cond.code yX5_init cX5_init 2 none ∈ wsL_law := tseg_2 (by decide +kernel) (List.mem_of_getElem? (i := 11) (by decide +kernel))
theorem qw_966 : Cond.methodLink RX11 59 yX5_init ∈ wsL_law := tseg_2 (by decide +kernel) (List.mem_of_getElem? (i := 9) (by decide +kernel))
theorem qw_967 : Cond.instanceMethod yX5_init ∈ wsL_law := tseg_2 (by decide +kernel) (List.mem_of_getElem? (i := 10) (by decide +kernel))
theorem qw_968 : Cond.classLink RX11 66 RX6 ∈ wsL_law := tseg_2 (by decide +kernel) (List.mem_of_getElem? (i := 17) (by decide +kernel))
theorem qw_969 : Cond.instantiable RX6 4 ∈ wsL_law := tseg_2 (by decide +kernel) (List.mem_of_getElem? (i := 18) (by decide +kernel))
theorem qw_970 : Cond.code yX6_init cX6_init 2 none ∈ wsL_law := tseg_2 (by decide +kernel) (List.mem_of_getElem? (i := 21) (by decide +kernel))
theorem qw_971 : Cond.methodLink RX11 68 yX6_init ∈ wsL_law := tseg_2 (by decide +kernel) (List.mem_of_getElem? (i := 19) (by decide +kernel))
theorem qw_972 : Cond.instanceMethod yX6_init ∈ wsL_law := tseg_2 (by decide +kernel) (List.mem_of_getElem? (i := 20) (by decide +kernel))
theorem qw_973 : Cond.classLink RX11 73 RX3 ∈ wsL_law := tseg_2 (by decide +kernel) (List.mem_of_getElem? (i := 75) (by decide +kernel))
theorem qw_974 : Cond.instantiable RX3 10 ∈ wsL_law := tseg_2 (by decide +kernel) (List.mem_of_getElem? (i := 76) (by decide +kernel))
theorem qw_975 : Cond.code yX3_init cX3_init 3 none ∈ wsL_law := tseg_2 (by decide +kernel) (List.mem_of_getElem? (i := 79) (by decide +kernel))
theorem qw_976 : Cond.methodLink RX11 75 yX3_init ∈ wsL_law := tseg_2 (by decide +kernel) (List.mem_of_getElem? (i := 77) (by decide +kernel))
theorem qw_977 : Cond.instanceMethod yX3_init ∈ wsL_law := tseg_2 (by decide +kernel) (List.mem_of_getElem? (i := 78) (by decide +kernel))
theorem qw_978 : Cond.classLink RX11 86 RX10 ∈ wsL_law := tseg_2 (by decide +kernel) (List.mem_of_getElem? (i := 138) (by decide +kernel))
theorem dX11_init_0 : decode cX11_init 0 = .ok (.aload_n 0, 1) := by decide +kernel
theorem dX11_init_1 : decode cX11_init 1 = .ok (.invokespecial 1, 3) := by decide +kernel
theorem dX11_init_4 : decode cX11_init 4 = .ok (.aload_n 0, 1) := by decide +kernel
theorem dX11_init_5 : decode cX11_init 5 = .ok (.new 7, 3) := by decide +kernel
theorem dX11_init_8 : decode cX11_init 8 = .ok (.dup, 1) := by decide +kernel
theorem dX11_init_9 : decode cX11_init 9 = .ok (.invokespecial 9, 3) := by decide +kernel
theorem dX11_init_12 : decode cX11_init 12 = .ok (.putfield 10, 3) := by decide +kernel
theorem dX11_init_15 : decode cX11_init 15 = .ok (.aload_n 0, 1) := by decide +kernel
theorem dX11_init_16 : decode cX11_init 16 = .ok (.new 16, 3) := by decide +kernel
theorem dX11_init_19 : decode cX11_init 19 = .ok (.dup, 1) := by decide +kernel
theorem dX11_init_20 : decode cX11_init 20 = .ok (.invokespecial 18, 3) := by decide +kernel
theorem dX11_init_23 : decode cX11_init 23 = .ok (.putfield 19, 3) := by decide +kernel
theorem dX11_init_26 : decode cX11_init 26 = .ok (.aload_n 0, 1) := by decide +kernel
theorem dX11_init_27 : decode cX11_init 27 = .ok (.new 16, 3) := by decide +kernel
theorem dX11_init_30 : decode cX11_init 30 = .ok (.dup, 1) := by decide +kernel
theorem dX11_init_31 : decode cX11_init 31 = .ok (.invokespecial 18, 3) := by decide +kernel
theorem dX11_init_34 : decode cX11_init 34 = .ok (.putfield 23, 3) := by decide +kernel
theorem dX11_init_37 : decode cX11_init 37 = .ok (.aload_n 0, 1) := by decide +kernel
theorem dX11_init_38 : decode cX11_init 38 = .ok (.iconst 2, 1) := by decide +kernel
theorem dX11_init_39 : decode cX11_init 39 = .ok (.anewarray 16, 3) := by decide +kernel
theorem dX11_init_42 : decode cX11_init 42 = .ok (.dup, 1) := by decide +kernel
theorem dX11_init_43 : decode cX11_init 43 = .ok (.iconst 0, 1) := by decide +kernel
theorem dX11_init_44 : decode cX11_init 44 = .ok (.new 16, 3) := by decide +kernel
theorem dX11_init_47 : decode cX11_init 47 = .ok (.dup, 1) := by decide +kernel
theorem dX11_init_48 : decode cX11_init 48 = .ok (.invokespecial 18, 3) := by decide +kernel
theorem dX11_init_51 : decode cX11_init 51 = .ok (.aastore, 1) := by decide +kernel
theorem dX11_init_52 : decode cX11_init 52 = .ok (.dup, 1) := by decide +kernel
theorem dX11_init_53 : decode cX11_init 53 = .ok (.iconst 1, 1) := by decide +kernel
theorem dX11_init_54 : decode cX11_init 54 = .ok (.new 16, 3) := by decide +kernel
theorem dX11_init_57 : decode cX11_init 57 = .ok (.dup, 1) := by decide +kernel
theorem dX11_init_58 : decode cX11_init 58 = .ok (.invokespecial 18, 3) := by decide +kernel
theorem dX11_init_61 : decode cX11_init 61 = .ok (.aastore, 1) := by decide +kernel
theorem dX11_init_62 : decode cX11_init 62 = .ok (.putfield 26, 3) := by decide +kernel
theorem dX11_init_65 : decode cX11_init 65 = .ok (.aload_n 0, 1) := by decide +kernel
theorem dX11_init_66 : decode cX11_init 66 = .ok (.iconst 2, 1) := by decide +kernel
theorem dX11_init_67 : decode cX11_init 67 = .ok (.newarray .boolean, 2) := by decide +kernel
theorem dX11_init_69 : decode cX11_init 69 = .ok (.putfield 30, 3) := by decide +kernel
theorem dX11_init_72 : decode cX11_init 72 = .ok (.aload_n 0, 1) := by decide +kernel
theorem dX11_init_73 : decode cX11_init 73 = .ok (.new 34, 3) := by decide +kernel
theorem dX11_init_76 : decode cX11_init 76 = .ok (.dup, 1) := by decide +kernel
theorem dX11_init_77 : decode cX11_init 77 = .ok (.aload_n 0, 1) := by decide +kernel
theorem dX11_init_78 : decode cX11_init 78 = .ok (.getfield 10, 3) := by decide +kernel
theorem dX11_init_81 : decode cX11_init 81 = .ok (.aload_n 0, 1) := by decide +kernel
theorem dX11_init_82 : decode cX11_init 82 = .ok (.getfield 23, 3) := by decide +kernel
theorem dX11_init_85 : decode cX11_init 85 = .ok (.invokespecial 36, 3) := by decide +kernel
theorem dX11_init_88 : decode cX11_init 88 = .ok (.putfield 39, 3) := by decide +kernel
theorem dX11_init_91 : decode cX11_init 91 = .ok (.aload_n 0, 1) := by decide +kernel
theorem dX11_init_92 : decode cX11_init 92 = .ok (.new 43, 3) := by decide +kernel
theorem dX11_init_95 : decode cX11_init 95 = .ok (.dup, 1) := by decide +kernel
theorem dX11_init_96 : decode cX11_init 96 = .ok (.invokespecial 45, 3) := by decide +kernel
theorem dX11_init_99 : decode cX11_init 99 = .ok (.putfield 46, 3) := by decide +kernel
theorem dX11_init_102 : decode cX11_init 102 = .ok (.aload_n 0, 1) := by decide +kernel
theorem dX11_init_103 : decode cX11_init 103 = .ok (.new 50, 3) := by decide +kernel
theorem dX11_init_106 : decode cX11_init 106 = .ok (.dup, 1) := by decide +kernel
theorem dX11_init_107 : decode cX11_init 107 = .ok (.invokespecial 52, 3) := by decide +kernel
theorem dX11_init_110 : decode cX11_init 110 = .ok (.putfield 53, 3) := by decide +kernel
theorem dX11_init_113 : decode cX11_init 113 = .ok (.aload_n 0, 1) := by decide +kernel
theorem dX11_init_114 : decode cX11_init 114 = .ok (.new 57, 3) := by decide +kernel
theorem dX11_init_117 : decode cX11_init 117 = .ok (.dup, 1) := by decide +kernel
theorem dX11_init_118 : decode cX11_init 118 = .ok (.aload_n 0, 1) := by decide +kernel
theorem dX11_init_119 : decode cX11_init 119 = .ok (.getfield 19, 3) := by decide +kernel
theorem dX11_init_122 : decode cX11_init 122 = .ok (.invokespecial 59, 3) := by decide +kernel
theorem dX11_init_125 : decode cX11_init 125 = .ok (.putfield 62, 3) := by decide +kernel
theorem dX11_init_128 : decode cX11_init 128 = .ok (.aload_n 0, 1) := by decide +kernel
theorem dX11_init_129 : decode cX11_init 129 = .ok (.new 66, 3) := by decide +kernel
theorem dX11_init_132 : decode cX11_init 132 = .ok (.dup, 1) := by decide +kernel
theorem dX11_init_133 : decode cX11_init 133 = .ok (.aload_n 0, 1) := by decide +kernel
theorem dX11_init_134 : decode cX11_init 134 = .ok (.getfield 19, 3) := by decide +kernel
theorem dX11_init_137 : decode cX11_init 137 = .ok (.invokespecial 68, 3) := by decide +kernel
theorem dX11_init_140 : decode cX11_init 140 = .ok (.putfield 69, 3) := by decide +kernel
theorem dX11_init_143 : decode cX11_init 143 = .ok (.aload_n 0, 1) := by decide +kernel
theorem dX11_init_144 : decode cX11_init 144 = .ok (.new 73, 3) := by decide +kernel
theorem dX11_init_147 : decode cX11_init 147 = .ok (.dup, 1) := by decide +kernel
theorem dX11_init_148 : decode cX11_init 148 = .ok (.aload_n 0, 1) := by decide +kernel
theorem dX11_init_149 : decode cX11_init 149 = .ok (.getfield 19, 3) := by decide +kernel
theorem dX11_init_152 : decode cX11_init 152 = .ok (.aload_n 0, 1) := by decide +kernel
theorem dX11_init_153 : decode cX11_init 153 = .ok (.getfield 69, 3) := by decide +kernel
theorem dX11_init_156 : decode cX11_init 156 = .ok (.invokespecial 75, 3) := by decide +kernel
theorem dX11_init_159 : decode cX11_init 159 = .ok (.putfield 78, 3) := by decide +kernel
theorem dX11_init_162 : decode cX11_init 162 = .ok (.aload_n 0, 1) := by decide +kernel
theorem dX11_init_163 : decode cX11_init 163 = .ok (.bipush 12, 2) := by decide +kernel
theorem dX11_init_165 : decode cX11_init 165 = .ok (.newarray .int, 2) := by decide +kernel
theorem dX11_init_167 : decode cX11_init 167 = .ok (.putfield 82, 3) := by decide +kernel
theorem dX11_init_170 : decode cX11_init 170 = .ok (.aload_n 0, 1) := by decide +kernel
theorem dX11_init_171 : decode cX11_init 171 = .ok (.new 86, 3) := by decide +kernel
theorem dX11_init_174 : decode cX11_init 174 = .ok (.dup, 1) := by decide +kernel
theorem dX11_init_175 : decode cX11_init 175 = .ok (.invokespecial 88, 3) := by decide +kernel
theorem dX11_init_178 : decode cX11_init 178 = .ok (.putfield 89, 3) := by decide +kernel
theorem dX11_init_181 : decode cX11_init 181 = .ok (.aload_n 0, 1) := by decide +kernel
theorem dX11_init_182 : decode cX11_init 182 = .ok (.bipush 12, 2) := by decide +kernel
theorem dX11_init_184 : decode cX11_init 184 = .ok (.newarray .int, 2) := by decide +kernel
theorem dX11_init_186 : decode cX11_init 186 = .ok (.putfield 93, 3) := by decide +kernel
theorem dX11_init_189 : decode cX11_init 189 = .ok (.aload_n 0, 1) := by decide +kernel
theorem dX11_init_190 : decode cX11_init 190 = .ok (.new 86, 3) := by decide +kernel
theorem dX11_init_193 : decode cX11_init 193 = .ok (.dup, 1) := by decide +kernel
theorem dX11_init_194 : decode cX11_init 194 = .ok (.invokespecial 88, 3) := by decide +kernel
theorem dX11_init_197 : decode cX11_init 197 = .ok (.putfield 96, 3) := by decide +kernel
theorem dX11_init_200 : decode cX11_init 200 = .ok (.aload_n 0, 1) := by decide +kernel
theorem dX11_init_201 : decode cX11_init 201 = .ok (.new 86, 3) := by decide +kernel
theorem dX11_init_204 : decode cX11_init 204 = .ok (.dup, 1) := by decide +kernel
theorem dX11_init_205 : decode cX11_init 205 = .ok (.invokespecial 88, 3) := by decide +kernel
theorem dX11_init_208 : decode cX11_init 208 = .ok (.putfield 99, 3) := by decide +kernel
theorem dX11_init_211 : decode cX11_init 211 = .ok (.return_, 1) := by decide +kernel
