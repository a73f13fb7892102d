theorem qw_937 : Cond.methodLink RX4 3 objectInit ∈ wsL_law := tseg_1 (by decide +kernel) (List.mem_of_getElem? (i := 115) (by decide +kernel))
theorem qw_938 : Cond.code yX11_pack cX11_pack 3 (some .int) ∈ wsL_law := tseg_1 (by decide +kernel) (List.mem_of_getElem? (i := 119) (by decide +kernel))
theorem qw_939 : Cond.static yX11_pack ∈ wsL_law := tseg_1 (by decide +kernel) (List.mem_of_getElem? (i := 118) (by decide +kernel))
theorem dX4_init_0 : decode cX4_init 0 = .ok (.aload_n 0, 1) := by decide +kernel
theorem dX4_init_1 : decode cX4_init 1 = .ok (.invokespecial 3, 3) := by decide +kernel
theorem dX4_init_4 : decode cX4_init 4 = .ok (.aload_n 0, 1) := by decide +kernel
theorem dX4_init_5 : decode cX4_init 5 = .ok (.aload_n 1, 1) := by decide +kernel
theorem dX4_init_6 : decode cX4_init 6 = .ok (.putfield 9, 3) := by decide +kernel
theorem dX4_init_9 : decode cX4_init 9 = .ok (.aload_n 0, 1) := by decide +kernel
theorem dX4_init_10 : decode cX4_init 10 = .ok (.aload_n 2, 1) := by decide +kernel
theorem dX4_init_11 : decode cX4_init 11 = .ok (.putfield 15, 3) := by decide +kernel
theorem dX4_init_14 : decode cX4_init 14 = .ok (.aload_n 0, 1) := by decide +kernel
theorem dX4_init_15 : decode cX4_init 15 = .ok (.iconst 4, 1) := by decide +kernel
theorem dX4_init_16 : decode cX4_init 16 = .ok (.newarray .int, 2) := by decide +kernel
theorem dX4_init_18 : decode cX4_init 18 = .ok (.dup, 1) := by decide +kernel
theorem dX4_init_19 : decode cX4_init 19 = .ok (.iconst 0, 1) := by decide +kernel
theorem dX4_init_20 : decode cX4_init 20 = .ok (.ldc 19, 2) := by decide +kernel
theorem dX4_init_22 : decode cX4_init 22 = .ok (.invokestatic 21, 3) := by decide +kernel
theorem dX4_init_25 : decode cX4_init 25 = .ok (.iastore, 1) := by decide +kernel
theorem dX4_init_26 : decode cX4_init 26 = .ok (.dup, 1) := by decide +kernel
theorem dX4_init_27 : decode cX4_init 27 = .ok (.iconst 1, 1) := by decide +kernel
theorem dX4_init_28 : decode cX4_init 28 = .ok (.ldc 25, 2) := by decide +kernel
theorem dX4_init_30 : decode cX4_init 30 = .ok (.invokestatic 21, 3) := by decide +kernel
theorem dX4_init_33 : decode cX4_init 33 = .ok (.iastore, 1) := by decide +kernel
theorem dX4_init_34 : decode cX4_init 34 = .ok (.dup, 1) := by decide +kernel
theorem dX4_init_35 : decode cX4_init 35 = .ok (.iconst 2, 1) := by decide +kernel
theorem dX4_init_36 : decode cX4_init 36 = .ok (.ldc 27, 2) := by decide +kernel
theorem dX4_init_38 : decode cX4_init 38 = .ok (.invokestatic 21, 3) := by decide +kernel
theorem dX4_init_41 : decode cX4_init 41 = .ok (.iastore, 1) := by decide +kernel
theorem dX4_init_42 : decode cX4_init 42 = .ok (.dup, 1) := by decide +kernel
theorem dX4_init_43 : decode cX4_init 43 = .ok (.iconst 3, 1) := by decide +kernel
theorem dX4_init_44 : decode cX4_init 44 = .ok (.ldc 29, 2) := by decide +kernel
theorem dX4_init_46 : decode cX4_init 46 = .ok (.invokestatic 21, 3) := by decide +kernel
theorem dX4_init_49 : decode cX4_init 49 = .ok (.iastore, 1) := by decide +kernel
theorem dX4_init_50 : decode cX4_init 50 = .ok (.putfield 31, 3) := by decide +kernel
theorem dX4_init_53 : decode cX4_init 53 = .ok (.aload_n 0, 1) := by decide +kernel
theorem dX4_init_54 : decode cX4_init 54 = .ok (.ldc 35, 2) := by decide +kernel
theorem dX4_init_56 : decode cX4_init 56 = .ok (.invokestatic 21, 3) := by decide +kernel
theorem dX4_init_59 : decode cX4_init 59 = .ok (.putfield 37, 3) := by decide +kernel
theorem dX4_init_62 : decode cX4_init 62 = .ok (.return_, 1) := by decide +kernel
set_option maxHeartbeats 4000000 in
set_option maxRecDepth 100000 in
theorem c_X4_init (l : Launch) (D : va_G) (g : Nat → ClassId) (sz : Nat) (ka kv : Nat → Nat) (ff : Nat → Nat → Int32) (rd : Nat) (tp : Nat) (d : Nat) : Met l yX4_init (.code yX4_init cX4_init 3 none :: wsL_law) ({ frames := 5, cells := 1, slots := 4, locals := 107 }) (va_Pc [.ref rd, .ref tp, .ref d] (fun U => U.heap.size = sz ∧ va_P D vwCl [(rd, .inr (4, [.null, .null, .null, .int 0, .int 0, .int 0, .int 0, .int 0, .int 0, .int 0]))] U.heap ∧ va_K D vwCl (TY g) U ∧ va_D (fun _ => True) [(rd, .inr (4, [.null, .null, .null, .int 0, .int 0, .int 0, .int 0, .int 0, .int 0, .int 0]))] ∧ ZI ka kv ff (va_A [(rd, .inr (4, [.null, .null, .null, .int 0, .int 0, .int 0, .int 0, .int 0, .int 0, .int 0]))] sz) U U.heap)) (va_Qv (fun (_ : Unit) => True) (fun _ t => ∃ rd_kindWords : Nat, ∃ ww : Int32, ∃ kwf : Nat → Int32, va_P D vwCl [(rd, .inr (4, [.ref tp, .ref d, .ref rd_kindWords, .int ww, .int 0, .int 0, .int 0, .int 0, .int 0, .int 0])), (rd_kindWords, .inl (g 0, 4, .inl kwf))] t.heap ∧ va_D (va_A [(rd, .inr (4, [.null, .null, .null, .int 0, .int 0, .int 0, .int 0, .int 0, .int 0, .int 0]))] sz) [(rd, .inr (4, [.ref tp, .ref d, .ref rd_kindWords, .int ww, .int 0, .int 0, .int 0, .int 0, .int 0, .int 0])), (rd_kindWords, .inl (g 0, 4, .inl kwf))]) (va_A [(rd, .inr (4, [.null, .null, .null, .int 0, .int 0, .int 0, .int 0, .int 0, .int 0, .int 0]))] sz)) 1 4 (va_A [(rd, .inr (4, [.null, .null, .null, .int 0, .int 0, .int 0, .int 0, .int 0, .int 0, .int 0]))] sz) := by
  refine Met.ofW (cc := cX4_init) (maxL := 3) (ret := none) (by decide) rfl ?_
  intro p e s m args below meth c s₁ B hml hv
  obtain ⟨rfl, hsz, hP, hK, hD0, hZ⟩ := hv
  have hx := B.exec
  have hb := B.bytes
  have hr := B.returns
  have hts0 := atoms_spec (ws := (.code yX4_init cX4_init 3 none :: wsL_law)) B.pre
  have hts : ∀ w ∈ wsL_law, w.before _ s = true := fun w h => hts0 w (List.mem_cons_of_mem _ h)
  have hown : s.vm.findClass RX4 = some m.cls := findClass_of_methodNamed B.named
  have hlocks := B.notSynchronized
  have hin : meth.name = "<init>" := (name_of_methodNamed B.named B.method).1
  subst hsz
  have hD := hD0.self (sz := s.heap.size)
  generalize hAe : va_A [(rd, .inr (4, [.null, .null, .null, .int 0, .int 0, .int 0, .int 0, .int 0, .int 0, .int 0]))] s.heap.size = A at hD hZ ⊢
  have hA : ∀ q : Nat, s.heap.size ≤ q → A q := fun q h => by rw [← hAe]; exact Or.inr h
  have hS : va_S A s.heap s.heap [] := va_S.rf
  have hP : va_P D vwCl [(rd, .inr (4, [.null, .null, .null, .int 0, .int 0, .int 0, .int 0, .int 0, .int 0, .int 0]))] s.heap := hP
  have hl := lv_entry ([.ref rd, .ref tp, .ref d]) (n := 3) (Nat.le_of_ble_eq_true rfl)
  rw [lg_entry_eq]
  generalize (lg_sl ([.ref rd, .ref tp, .ref d]) ++ List.replicate (3 - (lg_sl ([.ref rd, .ref tp, .ref d])).length) Slot.unset).toArray = ls at hl ⊢
  have hl : lv_has ls 3 [(0, .ref rd), (1, .ref tp), (2, .ref d)] := hl
  refine lv_aload_n hx hb dX4_init_0 rfl (lv_at hl 0 rfl) ?_
  refine W.objInit hx hb hown (hts (Cond.methodLink RX4 3 objectInit) qw_937) (hts (Cond.instanceMethod objectInit) qw_911) (hts (Cond.code objectInit ⟨#[0xb1]⟩ 1 none) qw_912) rfl (by rw [hml]; exact hl.1) rfl dX4_init_1 (Nat.le_of_ble_eq_true rfl) (Nat.le_of_ble_eq_true rfl) ?_
  refine W.eq (g2 := F0 m 4 ls []) rfl ?_
  refine lv_aload_n hx hb dX4_init_4 rfl (lv_at hl 0 rfl) ?_
  refine lv_aload_n hx hb dX4_init_5 rfl (lv_at hl 1 rfl) ?_
  refine va_putF (D := D) (ci := 4) (v := .ref tp) (ty := .object "ChanceRings$Tape") (C := RX4) (T := TX4) (N := 10) hx hb hts inlX4 tyX4 tyX4_ok nmX4 hown hK hP hD hS 0 rfl rfl 0 (by decide) (hts (Cond.fieldLink RX4 9 "ChanceRings$Reader" "tape" "LChanceRings$Tape;") qw_387) (fun _ h9 => h9) rfl hin rfl (by decide +kernel) rfl rfl (Nat.le_of_ble_eq_true rfl) dX4_init_6 (fun H locs hP hD hS => ?_)
  have hP : va_P D vwCl [(rd, .inr (4, [.ref tp, .null, .null, .int 0, .int 0, .int 0, .int 0, .int 0, .int 0, .int 0]))] H := hP
  have hD : va_D A [(rd, .inr (4, [.ref tp, .null, .null, .int 0, .int 0, .int 0, .int 0, .int 0, .int 0, .int 0]))] := hD
  refine lv_aload_n hx hb dX4_init_9 rfl (lv_at hl 0 rfl) ?_
  refine lv_aload_n hx hb dX4_init_10 rfl (lv_at hl 2 rfl) ?_
  refine va_putF (D := D) (ci := 4) (v := .ref d) (ty := .object "ChanceRings$Net") (C := RX4) (T := TX4) (N := 10) hx hb hts inlX4 tyX4 tyX4_ok nmX4 hown hK hP hD hS 0 rfl rfl 1 (by decide) (hts (Cond.fieldLink RX4 15 "ChanceRings$Reader" "net" "LChanceRings$Net;") qw_402) (fun _ h9 => h9) rfl hin rfl (by decide +kernel) rfl rfl (Nat.le_of_ble_eq_true rfl) dX4_init_11 (fun H locs hP hD hS => ?_)
  have hP : va_P D vwCl [(rd, .inr (4, [.ref tp, .ref d, .null, .int 0, .int 0, .int 0, .int 0, .int 0, .int 0, .int 0]))] H := hP
  have hD : va_D A [(rd, .inr (4, [.ref tp, .ref d, .null, .int 0, .int 0, .int 0, .int 0, .int 0, .int 0, .int 0]))] := hD
  refine lv_aload_n hx hb dX4_init_14 rfl (lv_at hl 0 rfl) ?_
  refine lv_iconst (v := 4) hx hb dX4_init_15 (by decide) ?_
  refine va_newa (atype := .int) (ty := .int) (N' := 4) (a0 := (4, .inl (fun _ => 0))) hx hb (hts (Cond.arrayClass .int) qw_913) rfl hK hP hD hS hA (fun _ => rfl) (by decide) (by decide +kernel) (by decide) (Nat.le_of_ble_eq_true rfl) (Nat.le_of_ble_eq_true rfl) dX4_init_16 (fun q_126592 cA H hK9 hP hD hS => ?_)
  obtain rfl : cA = g 0 := tz_clsI hK hK9
  have hP : va_P D vwCl [(rd, .inr (4, [.ref tp, .ref d, .null, .int 0, .int 0, .int 0, .int 0, .int 0, .int 0, .int 0])), (q_126592, .inl (g 0, 4, .inl (fun _ => 0)))] H := hP
  have hD : va_D A [(rd, .inr (4, [.ref tp, .ref d, .null, .int 0, .int 0, .int 0, .int 0, .int 0, .int 0, .int 0])), (q_126592, .inl (g 0, 4, .inl (fun _ => 0)))] := hD
  refine W.widen (k := 1) (n := 4) (by decide) (by decide) ?_
  refine lv_dup hx hb dX4_init_18 rfl ?_
  refine lv_iconst (v := 0) hx hb dX4_init_19 (by decide) ?_
  refine va_ldcS hx hb hown hZ.2.2.2.2.2.2.2.2.2.2.1.1 dX4_init_20 ?_
  refine vp_callSi (va_Run.run (va_runSN (As := [.ref (ka 0)]) (rest := [.int 0, .ref q_126592, .ref q_126592, .ref rd]) ⟨hx, hb, hml, hown, hts⟩ (c_X11_pack_3 l (ka 0) (kv 0) (ff 0) A) ⟨va_cnB 1 hts (tz_gC qw_938) rfl rfl rfl hZ.2.2.2.2.1 (hts (Cond.initialized RX11) qw_730) (by decide +kernel) ⟨Nat.le_of_ble_eq_true rfl, Nat.le_of_ble_eq_true rfl⟩, (hts (Cond.static yX11_pack) qw_939), trivial⟩ ⟨tz_blJ, tz_preJ (hZ.2.2.2.2.2.2.2.2.2.2.1.2.kept hS.2.1)⟩ rfl rfl hl.1 rfl (lv_room (Nat.le_of_ble_eq_true rfl)) dX4_init_22 ⟨Nat.le_of_ble_eq_true rfl, Nat.le_of_ble_eq_true rfl⟩)) (fun r_126593 _ => ?_)
  refine va_iast hx hb hK hP hD hS 1 0 rfl rfl (tz_in (by decide +kernel)) dX4_init_25 (fun H locs hP hD hS => ?_)
  obtain ⟨f_126594, hP, hD⟩ : ∃ FX : Nat → Int32, va_P D vwCl [(rd, .inr (4, [.ref tp, .ref d, .null, .int 0, .int 0, .int 0, .int 0, .int 0, .int 0, .int 0])), (q_126592, .inl (g 0, 4, .inl FX))] H ∧ va_D A [(rd, .inr (4, [.ref tp, .ref d, .null, .int 0, .int 0, .int 0, .int 0, .int 0, .int 0, .int 0])), (q_126592, .inl (g 0, 4, .inl FX))] := ⟨_, hP, hD⟩
  have hP : va_P D vwCl [(rd, .inr (4, [.ref tp, .ref d, .null, .int 0, .int 0, .int 0, .int 0, .int 0, .int 0, .int 0])), (q_126592, .inl (g 0, 4, .inl f_126594))] H := hP
  have hD : va_D A [(rd, .inr (4, [.ref tp, .ref d, .null, .int 0, .int 0, .int 0, .int 0, .int 0, .int 0, .int 0])), (q_126592, .inl (g 0, 4, .inl f_126594))] := hD
  refine lv_dup hx hb dX4_init_26 rfl ?_
  refine lv_iconst (v := 1) hx hb dX4_init_27 (by decide) ?_
  refine va_ldcS hx hb hown hZ.2.2.2.2.2.2.2.2.2.2.2.1.1 dX4_init_28 ?_
  refine vp_callSi (va_Run.run (va_runSN (As := [.ref (ka 1)]) (rest := [.int 1, .ref q_126592, .ref q_126592, .ref rd]) ⟨hx, hb, hml, hown, hts⟩ (c_X11_pack_3 l (ka 1) (kv 1) (ff 1) A) ⟨va_cnB 1 hts (tz_gC qw_938) rfl rfl rfl hZ.2.2.2.2.1 (hts (Cond.initialized RX11) qw_730) (by decide +kernel) ⟨Nat.le_of_ble_eq_true rfl, Nat.le_of_ble_eq_true rfl⟩, (hts (Cond.static yX11_pack) qw_939), trivial⟩ ⟨tz_blJ, tz_preJ (hZ.2.2.2.2.2.2.2.2.2.2.2.1.2.kept hS.2.1)⟩ rfl rfl hl.1 rfl (lv_room (Nat.le_of_ble_eq_true rfl)) dX4_init_30 ⟨Nat.le_of_ble_eq_true rfl, Nat.le_of_ble_eq_true rfl⟩)) (fun r_126595 _ => ?_)
  refine va_iast hx hb hK hP hD hS 1 0 rfl rfl (tz_in (by decide +kernel)) dX4_init_33 (fun H locs hP hD hS => ?_)
  obtain ⟨f_126596, hP, hD⟩ : ∃ FX : Nat → Int32, va_P D vwCl [(rd, .inr (4, [.ref tp, .ref d, .null, .int 0, .int 0, .int 0, .int 0, .int 0, .int 0, .int 0])), (q_126592, .inl (g 0, 4, .inl FX))] H ∧ va_D A [(rd, .inr (4, [.ref tp, .ref d, .null, .int 0, .int 0, .int 0, .int 0, .int 0, .int 0, .int 0])), (q_126592, .inl (g 0, 4, .inl FX))] := ⟨_, hP, hD⟩
  have hP : va_P D vwCl [(rd, .inr (4, [.ref tp, .ref d, .null, .int 0, .int 0, .int 0, .int 0, .int 0, .int 0, .int 0])), (q_126592, .inl (g 0, 4, .inl f_126596))] H := hP
  have hD : va_D A [(rd, .inr (4, [.ref tp, .ref d, .null, .int 0, .int 0, .int 0, .int 0, .int 0, .int 0, .int 0])), (q_126592, .inl (g 0, 4, .inl f_126596))] := hD
  refine lv_dup hx hb dX4_init_34 rfl ?_
  refine lv_iconst (v := 2) hx hb dX4_init_35 (by decide) ?_
  refine va_ldcS hx hb hown hZ.2.2.2.2.2.2.2.2.2.2.2.2.1.1 dX4_init_36 ?_
  refine vp_callSi (va_Run.run (va_runSN (As := [.ref (ka 2)]) (rest := [.int 2, .ref q_126592, .ref q_126592, .ref rd]) ⟨hx, hb, hml, hown, hts⟩ (c_X11_pack_3 l (ka 2) (kv 2) (ff 2) A) ⟨va_cnB 1 hts (tz_gC qw_938) rfl rfl rfl hZ.2.2.2.2.1 (hts (Cond.initialized RX11) qw_730) (by decide +kernel) ⟨Nat.le_of_ble_eq_true rfl, Nat.le_of_ble_eq_true rfl⟩, (hts (Cond.static yX11_pack) qw_939), trivial⟩ ⟨tz_blJ, tz_preJ (hZ.2.2.2.2.2.2.2.2.2.2.2.2.1.2.kept hS.2.1)⟩ rfl rfl hl.1 rfl (lv_room (Nat.le_of_ble_eq_true rfl)) dX4_init_38 ⟨Nat.le_of_ble_eq_true rfl, Nat.le_of_ble_eq_true rfl⟩)) (fun r_126597 _ => ?_)
  refine va_iast hx hb hK hP hD hS 1 0 rfl rfl (tz_in (by decide +kernel)) dX4_init_41 (fun H locs hP hD hS => ?_)
  obtain ⟨f_126598, hP, hD⟩ : ∃ FX : Nat → Int32, va_P D vwCl [(rd, .inr (4, [.ref tp, .ref d, .null, .int 0, .int 0, .int 0, .int 0, .int 0, .int 0, .int 0])), (q_126592, .inl (g 0, 4, .inl FX))] H ∧ va_D A [(rd, .inr (4, [.ref tp, .ref d, .null, .int 0, .int 0, .int 0, .int 0, .int 0, .int 0, .int 0])), (q_126592, .inl (g 0, 4, .inl FX))] := ⟨_, hP, hD⟩
  have hP : va_P D vwCl [(rd, .inr (4, [.ref tp, .ref d, .null, .int 0, .int 0, .int 0, .int 0, .int 0, .int 0, .int 0])), (q_126592, .inl (g 0, 4, .inl f_126598))] H := hP
  have hD : va_D A [(rd, .inr (4, [.ref tp, .ref d, .null, .int 0, .int 0, .int 0, .int 0, .int 0, .int 0, .int 0])), (q_126592, .inl (g 0, 4, .inl f_126598))] := hD
  refine lv_dup hx hb dX4_init_42 rfl ?_
  refine lv_iconst (v := 3) hx hb dX4_init_43 (by decide) ?_
  refine va_ldcS hx hb hown hZ.2.2.2.2.2.2.2.2.2.2.2.2.2.1.1 dX4_init_44 ?_
  refine vp_callSi (va_Run.run (va_runSN (As := [.ref (ka 3)]) (rest := [.int 3, .ref q_126592, .ref q_126592, .ref rd]) ⟨hx, hb, hml, hown, hts⟩ (c_X11_pack_6 l (ka 3) (kv 3) (ff 3) A) ⟨va_cnB 1 hts (tz_gC qw_938) rfl rfl rfl hZ.2.2.2.2.1 (hts (Cond.initialized RX11) qw_730) (by decide +kernel) ⟨Nat.le_of_ble_eq_true rfl, Nat.le_of_ble_eq_true rfl⟩, (hts (Cond.static yX11_pack) qw_939), trivial⟩ ⟨tz_blJ, tz_preJ (hZ.2.2.2.2.2.2.2.2.2.2.2.2.2.1.2.kept hS.2.1)⟩ rfl rfl hl.1 rfl (lv_room (Nat.le_of_ble_eq_true rfl)) dX4_init_46 ⟨Nat.le_of_ble_eq_true rfl, Nat.le_of_ble_eq_true rfl⟩)) (fun r_126599 _ => ?_)
  refine va_iast hx hb hK hP hD hS 1 0 rfl rfl (tz_in (by decide +kernel)) dX4_init_49 (fun H locs hP hD hS => ?_)
  obtain ⟨f_126600, hP, hD⟩ : ∃ FX : Nat → Int32, va_P D vwCl [(rd, .inr (4, [.ref tp, .ref d, .null, .int 0, .int 0, .int 0, .int 0, .int 0, .int 0, .int 0])), (q_126592, .inl (g 0, 4, .inl FX))] H ∧ va_D A [(rd, .inr (4, [.ref tp, .ref d, .null, .int 0, .int 0, .int 0, .int 0, .int 0, .int 0, .int 0])), (q_126592, .inl (g 0, 4, .inl FX))] := ⟨_, hP, hD⟩
  have hP : va_P D vwCl [(rd, .inr (4, [.ref tp, .ref d, .null, .int 0, .int 0, .int 0, .int 0, .int 0, .int 0, .int 0])), (q_126592, .inl (g 0, 4, .inl f_126600))] H := hP
  have hD : va_D A [(rd, .inr (4, [.ref tp, .ref d, .null, .int 0, .int 0, .int 0, .int 0, .int 0, .int 0, .int 0])), (q_126592, .inl (g 0, 4, .inl f_126600))] := hD
  refine va_putF (D := D) (ci := 4) (v := .ref q_126592) (ty := .array .int) (C := RX4) (T := TX4) (N := 10) hx hb hts inlX4 tyX4 tyX4_ok nmX4 hown hK hP hD hS 0 rfl rfl 2 (by decide) (hts (Cond.fieldLink RX4 31 "ChanceRings$Reader" "kindWords" "[I") qw_406) (fun _ h9 => h9) rfl hin rfl (by decide +kernel) rfl rfl (Nat.le_of_ble_eq_true rfl) dX4_init_50 (fun H locs hP hD hS => ?_)
  have hP : va_P D vwCl [(rd, .inr (4, [.ref tp, .ref d, .ref q_126592, .int 0, .int 0, .int 0, .int 0, .int 0, .int 0, .int 0])), (q_126592, .inl (g 0, 4, .inl f_126600))] H := hP
  have hD : va_D A [(rd, .inr (4, [.ref tp, .ref d, .ref q_126592, .int 0, .int 0, .int 0, .int 0, .int 0, .int 0, .int 0])), (q_126592, .inl (g 0, 4, .inl f_126600))] := hD
  refine lv_aload_n hx hb dX4_init_53 rfl (lv_at hl 0 rfl) ?_
  refine va_ldcS hx hb hown hZ.2.2.2.2.2.2.2.2.2.2.2.2.2.2.1 dX4_init_54 ?_
  refine vp_callSi (va_Run.run (va_runSN (As := [.ref (ka 4)]) (rest := [.ref rd]) ⟨hx, hb, hml, hown, hts⟩ (c_X11_pack_3 l (ka 4) (kv 4) (ff 4) A) ⟨va_cnB 1 hts (tz_gC qw_938) rfl rfl rfl hZ.2.2.2.2.1 (hts (Cond.initialized RX11) qw_730) (by decide +kernel) ⟨Nat.le_of_ble_eq_true rfl, Nat.le_of_ble_eq_true rfl⟩, (hts (Cond.static yX11_pack) qw_939), trivial⟩ ⟨tz_blJ, tz_preJ (hZ.2.2.2.2.2.2.2.2.2.2.2.2.2.2.2.kept hS.2.1)⟩ rfl rfl hl.1 rfl (lv_room (Nat.le_of_ble_eq_true rfl)) dX4_init_56 ⟨Nat.le_of_ble_eq_true rfl, Nat.le_of_ble_eq_true rfl⟩)) (fun r_126601 _ => ?_)
  refine va_putF (D := D) (ci := 4) (v := .int r_126601) (ty := .int) (C := RX4) (T := TX4) (N := 10) hx hb hts inlX4 tyX4 tyX4_ok nmX4 hown hK hP hD hS 0 rfl rfl 3 (by decide) (hts (Cond.fieldLink RX4 37 "ChanceRings$Reader" "wayWord" "I") qw_411) (fun _ h9 => h9) rfl hin rfl (by decide +kernel) rfl rfl (Nat.le_of_ble_eq_true rfl) dX4_init_59 (fun H locs hP hD hS => ?_)
  have hP : va_P D vwCl [(rd, .inr (4, [.ref tp, .ref d, .ref q_126592, .int r_126601, .int 0, .int 0, .int 0, .int 0, .int 0, .int 0])), (q_126592, .inl (g 0, 4, .inl f_126600))] H := hP
  have hD : va_D A [(rd, .inr (4, [.ref tp, .ref d, .ref q_126592, .int r_126601, .int 0, .int 0, .int 0, .int 0, .int 0, .int 0])), (q_126592, .inl (g 0, 4, .inl f_126600))] := hD
  have hP9 := hP.sub (ws' := [(rd, .inr (4, [.ref tp, .ref d, .ref q_126592, .int r_126601, .int 0, .int 0, .int 0, .int 0, .int 0, .int 0])), (q_126592, .inl (g 0, 4, .inl f_126600))]) [0, 1] rfl
  have hD9 := hD.sub (ws' := [(rd, .inr (4, [.ref tp, .ref d, .ref q_126592, .int r_126601, .int 0, .int 0, .int 0, .int 0, .int 0, .int 0])), (q_126592, .inl (g 0, 4, .inl f_126600))]) [0, 1] (by decide) rfl
  exact W.vret hx hb hr (fun t ht hW => ⟨⟨(), rfl, trivial, q_126592, r_126601, f_126600, by rw [ht]; exact hP9, hD9⟩, hS.F ht⟩) hS.2.2 dX4_init_62
