theorem qw_346 : Cond.fieldLink RX9 15 "ChanceRings$Telling" "length" "I" ∈ wsL_law := tseg_2 (by decide +kernel) (List.mem_of_getElem? (i := 0) (by decide +kernel))
theorem qw_347 : Cond.fieldLink RX9 9 "ChanceRings$Telling" "bytes" "[I" ∈ wsL_law := tseg_1 (by decide +kernel) (List.mem_of_getElem? (i := 238) (by decide +kernel))
theorem qw_348 : Cond.methodLink RX9 48 yX9_put ∈ wsL_law := tseg_4 (by decide +kernel) (List.mem_of_getElem? (i := 180) (by decide +kernel))
theorem qw_349 : Cond.instanceMethod yX9_put ∈ wsL_law := tseg_4 (by decide +kernel) (List.mem_of_getElem? (i := 182) (by decide +kernel))
theorem qw_350 : Cond.selects RX9 yX9_put yX9_put ∈ wsL_law := List.mem_filter.mpr ⟨List.mem_append_left _ (List.mem_of_getElem? (i := 43) (by decide +kernel)), by decide +kernel⟩
theorem qw_351 : Cond.initialized RX9 ∈ wsL_law := tseg_1 (by decide +kernel) (List.mem_of_getElem? (i := 10) (by decide +kernel))
theorem qw_352 : Cond.code yX9_put cX9_put 2 none ∈ wsL_law := tseg_4 (by decide +kernel) (List.mem_of_getElem? (i := 183) (by decide +kernel))
theorem qw_353 : Cond.constant RX9 64 (14348907) ∈ wsL_law := tseg_4 (by decide +kernel) (List.mem_of_getElem? (i := 179) (by decide +kernel))
theorem qw_354 : Cond.methodLink RX9 32 yX9_putWord ∈ wsL_law := tseg_4 (by decide +kernel) (List.mem_of_getElem? (i := 175) (by decide +kernel))
theorem qw_355 : Cond.instanceMethod yX9_putWord ∈ wsL_law := tseg_4 (by decide +kernel) (List.mem_of_getElem? (i := 177) (by decide +kernel))
theorem qw_356 : Cond.selects RX9 yX9_putWord yX9_putWord ∈ wsL_law := List.mem_filter.mpr ⟨List.mem_append_left _ (List.mem_of_getElem? (i := 42) (by decide +kernel)), by decide +kernel⟩
theorem qw_357 : Cond.code yX9_putWord cX9_putWord 4 none ∈ wsL_law := tseg_4 (by decide +kernel) (List.mem_of_getElem? (i := 178) (by decide +kernel))
theorem dX9_put_0 : decode cX9_put 0 = .ok (.aload_n 0, 1) := by decide +kernel
theorem dX9_put_1 : decode cX9_put 1 = .ok (.getfield 15, 3) := by decide +kernel
theorem dX9_put_4 : decode cX9_put 4 = .ok (.sipush 700, 3) := by decide +kernel
theorem dX9_put_7 : decode cX9_put 7 = .ok (.if_icmp .ge 23, 3) := by decide +kernel
theorem dX9_put_10 : decode cX9_put 10 = .ok (.aload_n 0, 1) := by decide +kernel
theorem dX9_put_11 : decode cX9_put 11 = .ok (.getfield 9, 3) := by decide +kernel
theorem dX9_put_14 : decode cX9_put 14 = .ok (.aload_n 0, 1) := by decide +kernel
theorem dX9_put_15 : decode cX9_put 15 = .ok (.getfield 15, 3) := by decide +kernel
theorem dX9_put_18 : decode cX9_put 18 = .ok (.iload_n 1, 1) := by decide +kernel
theorem dX9_put_19 : decode cX9_put 19 = .ok (.iastore, 1) := by decide +kernel
theorem dX9_put_20 : decode cX9_put 20 = .ok (.aload_n 0, 1) := by decide +kernel
theorem dX9_put_21 : decode cX9_put 21 = .ok (.dup, 1) := by decide +kernel
theorem dX9_put_22 : decode cX9_put 22 = .ok (.getfield 15, 3) := by decide +kernel
theorem dX9_put_25 : decode cX9_put 25 = .ok (.iconst 1, 1) := by decide +kernel
theorem dX9_put_26 : decode cX9_put 26 = .ok (.iadd, 1) := by decide +kernel
theorem dX9_put_27 : decode cX9_put 27 = .ok (.putfield 15, 3) := by decide +kernel
theorem dX9_put_30 : decode cX9_put 30 = .ok (.return_, 1) := by decide +kernel
theorem dX9_putDigit_0 : decode cX9_putDigit 0 = .ok (.aload_n 0, 1) := by decide +kernel
theorem dX9_putDigit_1 : decode cX9_putDigit 1 = .ok (.bipush 32, 2) := by decide +kernel
theorem dX9_putDigit_3 : decode cX9_putDigit 3 = .ok (.invokevirtual 48, 3) := by decide +kernel
theorem dX9_putDigit_6 : decode cX9_putDigit 6 = .ok (.aload_n 0, 1) := by decide +kernel
theorem dX9_putDigit_7 : decode cX9_putDigit 7 = .ok (.bipush 48, 2) := by decide +kernel
theorem dX9_putDigit_9 : decode cX9_putDigit 9 = .ok (.iload_n 1, 1) := by decide +kernel
theorem dX9_putDigit_10 : decode cX9_putDigit 10 = .ok (.iadd, 1) := by decide +kernel
theorem dX9_putDigit_11 : decode cX9_putDigit 11 = .ok (.invokevirtual 48, 3) := by decide +kernel
theorem dX9_putDigit_14 : decode cX9_putDigit 14 = .ok (.return_, 1) := by decide +kernel
theorem dX9_putSpaced_0 : decode cX9_putSpaced 0 = .ok (.aload_n 0, 1) := by decide +kernel
theorem dX9_putSpaced_1 : decode cX9_putSpaced 1 = .ok (.bipush 32, 2) := by decide +kernel
theorem dX9_putSpaced_3 : decode cX9_putSpaced 3 = .ok (.invokevirtual 48, 3) := by decide +kernel
theorem dX9_putSpaced_6 : decode cX9_putSpaced 6 = .ok (.aload_n 0, 1) := by decide +kernel
theorem dX9_putSpaced_7 : decode cX9_putSpaced 7 = .ok (.iload_n 1, 1) := by decide +kernel
theorem dX9_putSpaced_8 : decode cX9_putSpaced 8 = .ok (.invokevirtual 32, 3) := by decide +kernel
theorem dX9_putSpaced_11 : decode cX9_putSpaced 11 = .ok (.return_, 1) := by decide +kernel
theorem dX9_putWord_0 : decode cX9_putWord 0 = .ok (.ldc 64, 2) := by decide +kernel
theorem dX9_putWord_2 : decode cX9_putWord 2 = .ok (.istore_n 2, 1) := by decide +kernel
theorem dX9_putWord_3 : decode cX9_putWord 3 = .ok (.iload_n 2, 1) := by decide +kernel
theorem dX9_putWord_4 : decode cX9_putWord 4 = .ok (.ifCond .le 32, 3) := by decide +kernel
theorem dX9_putWord_7 : decode cX9_putWord 7 = .ok (.iload_n 1, 1) := by decide +kernel
theorem dX9_putWord_8 : decode cX9_putWord 8 = .ok (.iload_n 2, 1) := by decide +kernel
theorem dX9_putWord_9 : decode cX9_putWord 9 = .ok (.idiv, 1) := by decide +kernel
theorem dX9_putWord_10 : decode cX9_putWord 10 = .ok (.bipush 27, 2) := by decide +kernel
theorem dX9_putWord_12 : decode cX9_putWord 12 = .ok (.irem, 1) := by decide +kernel
theorem dX9_putWord_13 : decode cX9_putWord 13 = .ok (.istore_n 3, 1) := by decide +kernel
theorem dX9_putWord_14 : decode cX9_putWord 14 = .ok (.iload_n 3, 1) := by decide +kernel
theorem dX9_putWord_15 : decode cX9_putWord 15 = .ok (.ifCond .le 13, 3) := by decide +kernel
theorem dX9_putWord_18 : decode cX9_putWord 18 = .ok (.aload_n 0, 1) := by decide +kernel
theorem dX9_putWord_19 : decode cX9_putWord 19 = .ok (.bipush 97, 2) := by decide +kernel
theorem dX9_putWord_21 : decode cX9_putWord 21 = .ok (.iload_n 3, 1) := by decide +kernel
theorem dX9_putWord_22 : decode cX9_putWord 22 = .ok (.iadd, 1) := by decide +kernel
theorem dX9_putWord_23 : decode cX9_putWord 23 = .ok (.iconst 1, 1) := by decide +kernel
theorem dX9_putWord_24 : decode cX9_putWord 24 = .ok (.isub, 1) := by decide +kernel
theorem dX9_putWord_25 : decode cX9_putWord 25 = .ok (.invokevirtual 48, 3) := by decide +kernel
theorem dX9_putWord_28 : decode cX9_putWord 28 = .ok (.iload_n 2, 1) := by decide +kernel
theorem dX9_putWord_29 : decode cX9_putWord 29 = .ok (.bipush 27, 2) := by decide +kernel
theorem dX9_putWord_31 : decode cX9_putWord 31 = .ok (.idiv, 1) := by decide +kernel
theorem dX9_putWord_32 : decode cX9_putWord 32 = .ok (.istore_n 2, 1) := by decide +kernel
theorem dX9_putWord_33 : decode cX9_putWord 33 = .ok (.goto (-30), 3) := by decide +kernel
theorem dX9_putWord_36 : decode cX9_putWord 36 = .ok (.return_, 1) := by decide +kernel
theorem tk_700 : (700 : Int32).toInt = 700 := by decide
theorem tk_14348907 : (14348907 : Int32).toInt = 14348907 := by decide
set_option maxHeartbeats 4000000 in
set_option maxRecDepth 100000 in
theorem c_X9_putT (l : Launch) (D : va_G) (g : Nat → ClassId) (sz : Nat) (tl : Nat) (p0 : Int32) (tl_bytes : Nat) (tll : Int32) (tlf : Nat → Int32) (h_tll : 0 ≤ (tll : Int32).toInt ∧ (tll : Int32).toInt ≤ 700) : Met l yX9_put (.code yX9_put cX9_put 2 none :: wsL_law) ({ frames := 0, cells := 0, slots := 0, locals := 0 }) (va_Pc [.ref tl, .int p0] (fun U => U.heap.size = sz ∧ va_P D vwCl [(wO9 tl tl_bytes tll), (wI g tl_bytes 0 700 tlf)] U.heap ∧ va_K D vwCl (TY g) U ∧ va_D (fun _ => True) [(wO9 tl tl_bytes tll), (wI g tl_bytes 0 700 tlf)])) (va_Qv (fun (_ : Unit) => True) (fun _ t => ∃ otl : Int32, ∃ otf : Nat → Int32, (0 ≤ (otl : Int32).toInt ∧ (otl : Int32).toInt ≤ 700) ∧ (TXS tlf otf (tll : Int32).toInt (otl : Int32).toInt [(p0 : Int32).toInt]) ∧ va_P D vwCl [(wO9 tl tl_bytes otl), (wI g tl_bytes 0 700 otf)] t.heap ∧ va_D (va_A [(wO9 tl tl_bytes tll), (wI g tl_bytes 0 700 tlf)] sz) [(wO9 tl tl_bytes otl), (wI g tl_bytes 0 700 otf)]) (va_A [(wO9 tl tl_bytes tll), (wI g tl_bytes 0 700 tlf)] sz)) 0 0 (va_A [(wO9 tl tl_bytes tll), (wI g tl_bytes 0 700 tlf)] sz) := by
  refine Met.ofW (cc := cX9_put) (maxL := 2) (ret := none) (by decide) rfl ?_
  intro p e s m args below meth c s₁ B hml hv
  obtain ⟨ha, hsz, hP, hK, hD0⟩ := hv
  have hx := B.exec
  have hb := B.bytes
  have hr := B.returns
  have hts0 := atoms_spec (ws := (.code yX9_put cX9_put 2 none :: wsL_law)) B.pre
  have hts : ∀ w ∈ wsL_law, w.before args s = true := fun w h => hts0 w (List.mem_cons_of_mem _ h)
  have hown : s.vm.findClass RX9 = some m.cls := findClass_of_methodNamed B.named
  have hlocks := B.notSynchronized
  subst hsz
  have hD := hD0.self (sz := s.heap.size)
  generalize hAe : va_A [(wO9 tl tl_bytes tll), (wI g tl_bytes 0 700 tlf)] s.heap.size = A at hD ⊢
  have hA : ∀ q : Nat, s.heap.size ≤ q → A q := fun q h => by rw [← hAe]; exact Or.inr h
  have hS : va_S A s.heap s.heap [] := va_S.rf
  have hP : va_P D vwCl [(wO9 tl tl_bytes tll), (wI g tl_bytes 0 700 tlf)] s.heap := hP
  refine W.eq (g2 := entryFrame m ([.ref tl, .int p0] : List Value).toArray 2) (by rw [ha]) ?_
  have hl := lv_entry ([.ref tl, .int p0]) (n := 2) (Nat.le_of_ble_eq_true rfl)
  rw [lg_entry_eq]
  generalize (lg_sl ([.ref tl, .int p0]) ++ List.replicate (2 - (lg_sl ([.ref tl, .int p0])).length) Slot.unset).toArray = ls at hl ⊢
  have hl : lv_has ls 2 [(0, .ref tl), (1, .int p0)] := hl
  refine lv_aload_n hx hb dX9_put_0 rfl (lv_at hl 0 rfl) ?_
  refine va_get (D := D) (ci := 9) (v := .int tll) (C := RX9) (T := TX9) (N := 2) hx hb hts inlX9 hown hK hP 0 rfl rfl 1 (by decide) (hts (Cond.fieldLink RX9 15 "ChanceRings$Telling" "length" "I") qw_346) (fun _ h9 => h9) rfl dX9_put_1 ?_
  refine lv_sipush (v := 700) hx hb dX9_put_4 (by decide) ?_
  refine lv_icmp_ge (tgt := 30) hx hb dX9_put_7 (by decide) (fun c_60139 => ?_) (fun c_60139 => ?_)
  · skip
    have kk_700 := tk_700
    have c_60139_i := Int32.le_iff_toInt_le.mp c_60139
    have h_60140 : 700 ≤ (tll : Int32).toInt ∧ (tll : Int32).toInt ≤ 700 := nr_le_r (⟨by decide, by decide⟩ : 700 ≤ (700 : Int32).toInt ∧ (700 : Int32).toInt ≤ 700) h_tll c_60139_i (by decide) (by decide)
    have hP9 := hP.sub (ws' := [(wO9 tl tl_bytes tll), (wI g tl_bytes 0 700 tlf)]) [0, 1] rfl
    have hD9 := hD.sub (ws' := [(wO9 tl tl_bytes tll), (wI g tl_bytes 0 700 tlf)]) [0, 1] (by decide) rfl
    exact W.vret hx hb hr (fun t ht hW => ⟨⟨(), rfl, trivial, tll, tlf, (tr_w h_60140 (by decide) (by decide)), (TXS.full h_tll.1 (by have z_7 := tk_700; omega)), by rw [ht]; exact hP9, hD9⟩, hS.F ht⟩) hS.2.2 dX9_put_30
  · skip
    have kk_700 := tk_700
    have c_60139_i := Int32.lt_iff_toInt_lt.mp (Int32.not_le.mp c_60139)
    have h_60141 : 0 ≤ (tll : Int32).toInt ∧ (tll : Int32).toInt ≤ 699 := nr_lt_l h_tll (⟨by decide, by decide⟩ : 700 ≤ (700 : Int32).toInt ∧ (700 : Int32).toInt ≤ 700) c_60139_i (by decide) (by decide)
    refine lv_aload_n hx hb dX9_put_10 rfl (lv_at hl 0 rfl) ?_
    refine va_get (D := D) (ci := 9) (v := .ref tl_bytes) (C := RX9) (T := TX9) (N := 2) hx hb hts inlX9 hown hK hP 0 rfl rfl 0 (by decide) (hts (Cond.fieldLink RX9 9 "ChanceRings$Telling" "bytes" "[I") qw_347) (fun _ h9 => h9) rfl dX9_put_11 ?_
    refine lv_aload_n hx hb dX9_put_14 rfl (lv_at hl 0 rfl) ?_
    refine va_get (D := D) (ci := 9) (v := .int tll) (C := RX9) (T := TX9) (N := 2) hx hb hts inlX9 hown hK hP 0 rfl rfl 1 (by decide) (hts (Cond.fieldLink RX9 15 "ChanceRings$Telling" "length" "I") qw_346) (fun _ h9 => h9) rfl dX9_put_15 ?_
    refine lv_iload_n hx hb dX9_put_18 rfl (lv_at hl 1 rfl) ?_
    refine va_iast hx hb hK hP hD hS 1 0 rfl rfl (tr_in h_60141 (by decide) (by decide)) dX9_put_19 (fun H locs hP hD hS => ?_)
    obtain ⟨f_60142, f_60142_e, hP, hD⟩ : ∃ FX : Nat → Int32, FX = (upd tlf (tll : Int32).toNatClampNeg p0) ∧ va_P D vwCl [(wO9 tl tl_bytes tll), (wI g tl_bytes 0 700 FX)] H ∧ va_D A [(wO9 tl tl_bytes tll), (wI g tl_bytes 0 700 FX)] := ⟨_, rfl, hP, hD⟩
    have hP : va_P D vwCl [(wO9 tl tl_bytes tll), (wI g tl_bytes 0 700 f_60142)] H := hP
    have hD : va_D A [(wO9 tl tl_bytes tll), (wI g tl_bytes 0 700 f_60142)] := hD
    refine lv_aload_n hx hb dX9_put_20 rfl (lv_at hl 0 rfl) ?_
    refine lv_dup hx hb dX9_put_21 rfl ?_
    refine va_get (D := D) (ci := 9) (v := .int tll) (C := RX9) (T := TX9) (N := 2) hx hb hts inlX9 hown hK hP 0 rfl rfl 1 (by decide) (hts (Cond.fieldLink RX9 15 "ChanceRings$Telling" "length" "I") qw_346) (fun _ h9 => h9) rfl dX9_put_22 ?_
    refine lv_iconst (v := 1) hx hb dX9_put_25 (by decide) ?_
    refine lv_iadd hx hb dX9_put_26 ?_
    refine lv_topi (fun v_60143 v_60143_e => ?_)
    have h_v_60143 : 1 ≤ (v_60143 : Int32).toInt ∧ (v_60143 : Int32).toInt ≤ 700 := by rw [v_60143_e]; exact tr_add h_60141 (⟨by decide, by decide⟩ : 1 ≤ (1 : Int32).toInt ∧ (1 : Int32).toInt ≤ 1) (by decide) (by decide) (by decide) (by decide)
    have q_v_60143 : v_60143.toInt = tll.toInt + 1 := by rw [v_60143_e]; exact tr_addE h_60141 (⟨by decide, by decide⟩ : 1 ≤ (1 : Int32).toInt ∧ (1 : Int32).toInt ≤ 1) (by decide) (by decide)
    refine va_put (D := D) (ci := 9) (v := .int v_60143) (ty := .int) (C := RX9) (T := TX9) (N := 2) hx hb hts inlX9 tyX9 tyX9_ok nmX9 hown hK hP hD hS 0 rfl rfl 1 (by decide) (hts (Cond.fieldLink RX9 15 "ChanceRings$Telling" "length" "I") qw_346) (fun _ h9 => h9) rfl (by decide +kernel) rfl rfl (Nat.le_of_ble_eq_true rfl) dX9_put_27 (fun H locs hP hD hS => ?_)
    have hP : va_P D vwCl [(wO9 tl tl_bytes v_60143), (wI g tl_bytes 0 700 f_60142)] H := hP
    have hD : va_D A [(wO9 tl tl_bytes v_60143), (wI g tl_bytes 0 700 f_60142)] := hD
    have hP9 := hP.sub (ws' := [(wO9 tl tl_bytes v_60143), (wI g tl_bytes 0 700 f_60142)]) [0, 1] rfl
    have hD9 := hD.sub (ws' := [(wO9 tl tl_bytes v_60143), (wI g tl_bytes 0 700 f_60142)]) [0, 1] (by decide) rfl
    exact W.vret hx hb hr (fun t ht hW => ⟨⟨(), rfl, trivial, v_60143, f_60142, (tr_w h_v_60143 (by decide) (by decide)), (TXS.of (TXA.one (by omega) f_60142_e (by show Int.toNat _ = _; rfl) (by omega) rfl)), by rw [ht]; exact hP9, hD9⟩, hS.F ht⟩) hS.2.2 dX9_put_30
set_option maxHeartbeats 4000000 in
set_option maxRecDepth 100000 in
theorem c_X9_putDigitT (l : Launch) (D : va_G) (g : Nat → ClassId) (sz : Nat) (tl : Nat) (p0 : Int32) (tl_bytes : Nat) (tll : Int32) (tlf : Nat → Int32) (h_p0 : 0 ≤ (p0 : Int32).toInt ∧ (p0 : Int32).toInt ≤ 9) (h_tll : 0 ≤ (tll : Int32).toInt ∧ (tll : Int32).toInt ≤ 700) : Met l yX9_putDigit (.code yX9_putDigit cX9_putDigit 2 none :: wsL_law) ({ frames := 1, cells := 0, slots := 0, locals := 21 }) (va_Pc [.ref tl, .int p0] (fun U => U.heap.size = sz ∧ va_P D vwCl [(wO9 tl tl_bytes tll), (wI g tl_bytes 0 700 tlf)] U.heap ∧ va_K D vwCl (TY g) U ∧ va_D (fun _ => True) [(wO9 tl tl_bytes tll), (wI g tl_bytes 0 700 tlf)])) (va_Qv (fun (_ : Unit) => True) (fun _ t => ∃ otl : Int32, ∃ otf : Nat → Int32, (0 ≤ (otl : Int32).toInt ∧ (otl : Int32).toInt ≤ 700) ∧ (TXS tlf otf (tll : Int32).toInt (otl : Int32).toInt [32, 48 + (p0 : Int32).toInt]) ∧ va_P D vwCl [(wO9 tl tl_bytes otl), (wI g tl_bytes 0 700 otf)] t.heap ∧ va_D (va_A [(wO9 tl tl_bytes tll), (wI g tl_bytes 0 700 tlf)] sz) [(wO9 tl tl_bytes otl), (wI g tl_bytes 0 700 otf)]) (va_A [(wO9 tl tl_bytes tll), (wI g tl_bytes 0 700 tlf)] sz)) 0 0 (va_A [(wO9 tl tl_bytes tll), (wI g tl_bytes 0 700 tlf)] sz) := by
  refine Met.ofW (cc := cX9_putDigit) (maxL := 2) (ret := none) (by decide) rfl ?_
  intro p e s m args below meth c s₁ B hml hv
  obtain ⟨ha, hsz, hP, hK, hD0⟩ := hv
  have hx := B.exec
  have hb := B.bytes
  have hr := B.returns
  have hts0 := atoms_spec (ws := (.code yX9_putDigit cX9_putDigit 2 none :: wsL_law)) B.pre
  have hts : ∀ w ∈ wsL_law, w.before args s = true := fun w h => hts0 w (List.mem_cons_of_mem _ h)
  have hown : s.vm.findClass RX9 = some m.cls := findClass_of_methodNamed B.named
  have hlocks := B.notSynchronized
  subst hsz
  have hD := hD0.self (sz := s.heap.size)
  generalize hAe : va_A [(wO9 tl tl_bytes tll), (wI g tl_bytes 0 700 tlf)] s.heap.size = A at hD ⊢
  have hA : ∀ q : Nat, s.heap.size ≤ q → A q := fun q h => by rw [← hAe]; exact Or.inr h
  have hS : va_S A s.heap s.heap [] := va_S.rf
  have hP : va_P D vwCl [(wO9 tl tl_bytes tll), (wI g tl_bytes 0 700 tlf)] s.heap := hP
  refine W.eq (g2 := entryFrame m ([.ref tl, .int p0] : List Value).toArray 2) (by rw [ha]) ?_
  have hl := lv_entry ([.ref tl, .int p0]) (n := 2) (Nat.le_of_ble_eq_true rfl)
  rw [lg_entry_eq]
  generalize (lg_sl ([.ref tl, .int p0]) ++ List.replicate (2 - (lg_sl ([.ref tl, .int p0])).length) Slot.unset).toArray = ls at hl ⊢
  have hl : lv_has ls 2 [(0, .ref tl), (1, .int p0)] := hl
  refine lv_aload_n hx hb dX9_putDigit_0 rfl (lv_at hl 0 rfl) ?_
  refine lv_bipush (v := 32) hx hb dX9_putDigit_1 (by decide) ?_
  have hPc := hP.sub (ws' := [(wO9 tl tl_bytes tll), (wI g tl_bytes 0 700 tlf)]) [0, 1] rfl
  have hDc := hD.sub (ws' := [(wO9 tl tl_bytes tll), (wI g tl_bytes 0 700 tlf)]) [0, 1] (by decide) rfl
  have hFc := va_free (wc := [(wO9 tl tl_bytes tll), (wI g tl_bytes 0 700 tlf)]) hD hS hA [0, 1] rfl
  refine va_callv (va_runV (As := [.int 32]) (rest := []) ⟨hx, hb, hml, hown, hts⟩ (c_X9_putT l D g s.heap.size tl 32 tl_bytes tll tlf (tr_w h_tll (by decide) (by decide))) (cwV 1 hts (tz_gV qw_348 qw_349 qw_350 qw_351 qw_352) rfl rfl rfl (by decide +kernel) ⟨Nat.le_of_ble_eq_true rfl, Nat.le_of_ble_eq_true rfl⟩) ⟨tz_blQ, va_recv hK hPc (ci := 9) (q0 := 0) rfl rfl, tz_preQ hPc hK hDc⟩ rfl rfl hl.1 rfl (lv_room (Nat.le_of_ble_eq_true rfl)) dX9_putDigit_3 ⟨Nat.le_of_ble_eq_true rfl, Nat.le_of_ble_eq_true rfl⟩) hS (fun q _ h => hFc q h) hFc (fun u t H1 locs ht hvm hw hB hz1 hk1 hS => ?_)
  obtain ⟨otl_60145, otf_60146, hf_60147, hf_60148, hP1, hD1⟩ := hB
  rw [ht] at hP1
  obtain ⟨hP, hD⟩ := va_join (wr := []) (w1 := [(wO9 tl tl_bytes otl_60145), (wI g tl_bytes 0 700 otf_60146)]) hP hD [0, 1] [] rfl rfl (by decide) (by decide) hk1 hFc hP1 hD1
  generalize H1 = H at hP hS ⊢
  have hP : va_P D vwCl [(wO9 tl tl_bytes otl_60145), (wI g tl_bytes 0 700 otf_60146)] H := hP
  have hD : va_D A [(wO9 tl tl_bytes otl_60145), (wI g tl_bytes 0 700 otf_60146)] := hD
  refine lv_aload_n hx hb dX9_putDigit_6 rfl (lv_at hl 0 rfl) ?_
  refine lv_bipush (v := 48) hx hb dX9_putDigit_7 (by decide) ?_
  refine lv_iload_n hx hb dX9_putDigit_9 rfl (lv_at hl 1 rfl) ?_
  refine lv_iadd hx hb dX9_putDigit_10 ?_
  refine lv_topi (fun v_60149 v_60149_e => ?_)
  have h_v_60149 : 48 ≤ (v_60149 : Int32).toInt ∧ (v_60149 : Int32).toInt ≤ 57 := by rw [v_60149_e]; exact tr_add (⟨by decide, by decide⟩ : 48 ≤ (48 : Int32).toInt ∧ (48 : Int32).toInt ≤ 48) h_p0 (by decide) (by decide) (by decide) (by decide)
  have q_v_60149 : v_60149.toInt = 48 + p0.toInt := by rw [v_60149_e]; exact (tr_addX (⟨by decide, by decide⟩ : 48 ≤ (48 : Int32).toInt ∧ (48 : Int32).toInt ≤ 48) h_p0 (by decide) (by decide)).trans (by rw [tk_48])
  have hPc := hP.sub (ws' := [(wO9 tl tl_bytes otl_60145), (wI g tl_bytes 0 700 otf_60146)]) [0, 1] rfl
  have hDc := hD.sub (ws' := [(wO9 tl tl_bytes otl_60145), (wI g tl_bytes 0 700 otf_60146)]) [0, 1] (by decide) rfl
  have hFc := va_free (wc := [(wO9 tl tl_bytes otl_60145), (wI g tl_bytes 0 700 otf_60146)]) hD hS hA [0, 1] rfl
  refine va_callv (va_runV (As := [.int v_60149]) (rest := []) ⟨hx, hb, hml, hown, hts⟩ (c_X9_putT l D g H.size tl v_60149 tl_bytes otl_60145 otf_60146 (tr_w hf_60147 (by decide) (by decide))) (cwV 1 hts (tz_gV qw_348 qw_349 qw_350 qw_351 qw_352) rfl rfl rfl (by decide +kernel) ⟨Nat.le_of_ble_eq_true rfl, Nat.le_of_ble_eq_true rfl⟩) ⟨tz_blQ, va_recv hK hPc (ci := 9) (q0 := 0) rfl rfl, tz_preQ hPc hK hDc⟩ rfl rfl hl.1 rfl (lv_room (Nat.le_of_ble_eq_true rfl)) dX9_putDigit_11 ⟨Nat.le_of_ble_eq_true rfl, Nat.le_of_ble_eq_true rfl⟩) hS (fun q _ h => hFc q h) hFc (fun u t H1 locs ht hvm hw hB hz1 hk1 hS => ?_)
  obtain ⟨otl_60151, otf_60152, hf_60153, hf_60154, hP1, hD1⟩ := hB
  rw [ht] at hP1
  obtain ⟨hP, hD⟩ := va_join (wr := []) (w1 := [(wO9 tl tl_bytes otl_60151), (wI g tl_bytes 0 700 otf_60152)]) hP hD [0, 1] [] rfl rfl (by decide) (by decide) hk1 hFc hP1 hD1
  generalize H1 = H at hP hS ⊢
  have hP : va_P D vwCl [(wO9 tl tl_bytes otl_60151), (wI g tl_bytes 0 700 otf_60152)] H := hP
  have hD : va_D A [(wO9 tl tl_bytes otl_60151), (wI g tl_bytes 0 700 otf_60152)] := hD
  have hP9 := hP.sub (ws' := [(wO9 tl tl_bytes otl_60151), (wI g tl_bytes 0 700 otf_60152)]) [0, 1] rfl
  have hD9 := hD.sub (ws' := [(wO9 tl tl_bytes otl_60151), (wI g tl_bytes 0 700 otf_60152)]) [0, 1] (by decide) rfl
  exact W.vret hx hb hr (fun t ht hW => ⟨⟨(), rfl, trivial, otl_60151, otf_60152, (tr_w hf_60153 (by decide) (by decide)), (TXS.two hf_60148 hf_60154 tk_32 (by have z_48 := tk_48; (first | (clear h_p0 h_tll h_v_60149 q_v_60149; omega) | omega))), by rw [ht]; exact hP9, hD9⟩, hS.F ht⟩) hS.2.2 dX9_putDigit_14
set_option maxHeartbeats 4000000 in
set_option maxRecDepth 100000 in
theorem c_X9_putWordT (l : Launch) (D : va_G) (g : Nat → ClassId) (sz : Nat) (tl : Nat) (p0 : Int32) (tl_bytes : Nat) (tll : Int32) (tlf : Nat → Int32) (h_tll : 0 ≤ (tll : Int32).toInt ∧ (tll : Int32).toInt ≤ 700) (hw0 : 0 ≤ (p0 : Int32).toInt) : Met l yX9_putWord (.code yX9_putWord cX9_putWord 4 none :: wsL_law) ({ frames := 1, cells := 0, slots := 0, locals := 21 }) (va_Pc [.ref tl, .int p0] (fun U => U.heap.size = sz ∧ va_P D vwCl [(wO9 tl tl_bytes tll), (wI g tl_bytes 0 700 tlf)] U.heap ∧ va_K D vwCl (TY g) U ∧ va_D (fun _ => True) [(wO9 tl tl_bytes tll), (wI g tl_bytes 0 700 tlf)])) (va_Qv (fun (_ : Unit) => True) (fun _ t => ∃ otl : Int32, ∃ otf : Nat → Int32, (0 ≤ (otl : Int32).toInt ∧ (otl : Int32).toInt ≤ 700) ∧ (TXS tlf otf (tll : Int32).toInt (otl : Int32).toInt (wdC (p0 : Int32).toInt)) ∧ va_P D vwCl [(wO9 tl tl_bytes otl), (wI g tl_bytes 0 700 otf)] t.heap ∧ va_D (va_A [(wO9 tl tl_bytes tll), (wI g tl_bytes 0 700 tlf)] sz) [(wO9 tl tl_bytes otl), (wI g tl_bytes 0 700 otf)]) (va_A [(wO9 tl tl_bytes tll), (wI g tl_bytes 0 700 tlf)] sz)) 0 0 (va_A [(wO9 tl tl_bytes tll), (wI g tl_bytes 0 700 tlf)] sz) := by
  refine Met.ofW (cc := cX9_putWord) (maxL := 4) (ret := none) (by decide) rfl ?_
  intro p e s m args below meth c s₁ B hml hv
  obtain ⟨ha, hsz, hP, hK, hD0⟩ := hv
  have hx := B.exec
  have hb := B.bytes
  have hr := B.returns
  have hts0 := atoms_spec (ws := (.code yX9_putWord cX9_putWord 4 none :: wsL_law)) B.pre
  have hts : ∀ w ∈ wsL_law, w.before args s = true := fun w h => hts0 w (List.mem_cons_of_mem _ h)
  have hown : s.vm.findClass RX9 = some m.cls := findClass_of_methodNamed B.named
  have hlocks := B.notSynchronized
  subst hsz
  have hD := hD0.self (sz := s.heap.size)
  generalize hAe : va_A [(wO9 tl tl_bytes tll), (wI g tl_bytes 0 700 tlf)] s.heap.size = A at hD ⊢
  have hA : ∀ q : Nat, s.heap.size ≤ q → A q := fun q h => by rw [← hAe]; exact Or.inr h
  have hS : va_S A s.heap s.heap [] := va_S.rf
  have hP : va_P D vwCl [(wO9 tl tl_bytes tll), (wI g tl_bytes 0 700 tlf)] s.heap := hP
  refine W.eq (g2 := entryFrame m ([.ref tl, .int p0] : List Value).toArray 4) (by rw [ha]) ?_
  have hl := lv_entry ([.ref tl, .int p0]) (n := 4) (Nat.le_of_ble_eq_true rfl)
  rw [lg_entry_eq]
  generalize (lg_sl ([.ref tl, .int p0]) ++ List.replicate (4 - (lg_sl ([.ref tl, .int p0])).length) Slot.unset).toArray = ls at hl ⊢
  have hl : lv_has ls 4 [(0, .ref tl), (1, .int p0)] := hl
  refine lv_ldc (v := 14348907) hx hb hown (hts (Cond.constant RX9 64 (14348907)) qw_353) dX9_putWord_0 ?_
  refine lv_istore_n (lv' := [(2, .int 14348907), (0, .ref tl), (1, .int p0)]) hx hb dX9_putWord_2 rfl hl (by decide) rfl (fun ls hl => ?_)
  have lp_60203 : ∀ (n_60203 : Nat) (x_60200 : Int32) (x_60201 : Int32) (f_60202 : Nat → Int32) (H : Heap) (locs : List Loc) (ls : Array Slot), (0 ≤ (x_60200 : Int32).toInt ∧ (x_60200 : Int32).toInt ≤ 14348907) → (0 ≤ (x_60201 : Int32).toInt ∧ (x_60201 : Int32).toInt ≤ 700) → (UOK x_60200.toInt ∧ TXS tlf f_60202 (tll : Int32).toInt x_60201.toInt (wdP (p0 : Int32).toInt x_60200.toInt)) → (x_60200.toInt < (n_60203 : Int)) → va_P D vwCl [(wO9 tl tl_bytes x_60201), (wI g tl_bytes 0 700 f_60202)] H → va_D A [(wO9 tl tl_bytes x_60201), (wI g tl_bytes 0 700 f_60202)] → va_S A s.heap H locs → lv_has ls 4 [(2, .int x_60200), (0, .ref tl), (1, .int p0)] → W p l e (headSpec (.code yX9_putWord cX9_putWord 4 none :: wsL_law) ({ frames := 1, cells := 0, slots := 0, locals := 21 })).room s m args below meth c H locs 0 0 (MQ below (va_Qv (fun (_ : Unit) => True) (fun _ t => ∃ otl : Int32, ∃ otf : Nat → Int32, (0 ≤ (otl : Int32).toInt ∧ (otl : Int32).toInt ≤ 700) ∧ (TXS tlf otf (tll : Int32).toInt (otl : Int32).toInt (wdC (p0 : Int32).toInt)) ∧ va_P D vwCl [(wO9 tl tl_bytes otl), (wI g tl_bytes 0 700 otf)] t.heap ∧ va_D A [(wO9 tl tl_bytes otl), (wI g tl_bytes 0 700 otf)]) A) args s 0 0 A) (F0 m 3 ls []) := by
    intro n_60203
    induction n_60203 with
    | zero =>
      intro x_60200 x_60201 f_60202 H locs ls h_x_60200 h_x_60201 hr60203_0 hm_60203 hP hD hS hl
      exfalso; omega
    | succ n_60203 ih_60203 =>
      intro x_60200 x_60201 f_60202 H locs ls h_x_60200 h_x_60201 hr60203_0 hm_60203 hP hD hS hl
      refine lv_iload_n hx hb dX9_putWord_3 rfl (lv_at hl 0 rfl) ?_
      refine lv_if_le (tgt := 36) hx hb dX9_putWord_4 (by decide) (fun c_60204 => ?_) (fun c_60204 => ?_)
      · skip
        have kk_0 := tk_0
        have c_60204_i := Int32.le_iff_toInt_le.mp c_60204
        have h_60205 : 0 ≤ (x_60200 : Int32).toInt ∧ (x_60200 : Int32).toInt ≤ 0 := nr_le_l h_x_60200 (⟨by decide, by decide⟩ : 0 ≤ (0 : Int32).toInt ∧ (0 : Int32).toInt ≤ 0) c_60204_i (by decide) (by decide)
        have hP9 := hP.sub (ws' := [(wO9 tl tl_bytes x_60201), (wI g tl_bytes 0 700 f_60202)]) [0, 1] rfl
        have hD9 := hD.sub (ws' := [(wO9 tl tl_bytes x_60201), (wI g tl_bytes 0 700 f_60202)]) [0, 1] (by decide) rfl
        exact W.vret hx hb hr (fun t ht hW => ⟨⟨(), rfl, trivial, x_60201, f_60202, (tr_w h_x_60201 (by decide) (by decide)), (TXS.wdend hr60203_0 (by have z_0 := tk_0; (first | (clear h_tll hw0 h_x_60200 c_60204_i h_60205; omega) | omega))), by rw [ht]; exact hP9, hD9⟩, hS.F ht⟩) hS.2.2 dX9_putWord_36
      · skip
        have kk_0 := tk_0
        have c_60204_i := Int32.lt_iff_toInt_lt.mp (Int32.not_le.mp c_60204)
        have h_60206 : 1 ≤ (x_60200 : Int32).toInt ∧ (x_60200 : Int32).toInt ≤ 14348907 := nr_lt_r (⟨by decide, by decide⟩ : 0 ≤ (0 : Int32).toInt ∧ (0 : Int32).toInt ≤ 0) h_x_60200 c_60204_i (by decide) (by decide)
        refine lv_iload_n hx hb dX9_putWord_7 rfl (lv_at hl 2 rfl) ?_
        refine lv_iload_n hx hb dX9_putWord_8 rfl (lv_at hl 0 rfl) ?_
        refine lv_idiv hx hb dX9_putWord_9 (tr_nz h_60206 (by decide)) ?_
        refine lv_topi (fun v_60207 v_60207_e => ?_)
        have d1_9 := i32_div v_60207_e hw0 (by have z_0 := tk_0; (first | (clear h_tll h_x_60200 h_x_60201 c_60204_i h_60206; omega) | omega))
        refine lv_bipush (v := 27) hx hb dX9_putWord_10 (by decide) ?_
        refine lv_irem hx hb dX9_putWord_12 (by decide) ?_
        refine lv_topi (fun v_60208 v_60208_e => ?_)
        have di_9 : v_60208.toInt = (p0 : Int32).toInt / x_60200.toInt % 27 := by rw [← d1_9.1]; exact i32_r27 v_60208_e d1_9.2.1
        have h_60209 : 0 ≤ (v_60208 : Int32).toInt ∧ (v_60208 : Int32).toInt ≤ 26 := by have q9 := i32_r27 v_60208_e d1_9.2.1; omega
        refine lv_istore_n (lv' := [(3, .int v_60208), (2, .int x_60200), (0, .ref tl), (1, .int p0)]) hx hb dX9_putWord_13 rfl hl (by decide) rfl (fun ls hl => ?_)
        refine lv_iload_n hx hb dX9_putWord_14 rfl (lv_at hl 0 rfl) ?_
        refine lv_if_le (tgt := 28) hx hb dX9_putWord_15 (by decide) (fun c_60210 => ?_) (fun c_60210 => ?_)
        · skip
          have c_60210_i := Int32.le_iff_toInt_le.mp c_60210
          have h_60211 : 0 ≤ (v_60208 : Int32).toInt ∧ (v_60208 : Int32).toInt ≤ 0 := nr_le_l h_60209 (⟨by decide, by decide⟩ : 0 ≤ (0 : Int32).toInt ∧ (0 : Int32).toInt ≤ 0) c_60210_i (by decide) (by decide)
          refine lv_iload_n hx hb dX9_putWord_28 rfl (lv_at hl 1 rfl) ?_
          refine lv_bipush (v := 27) hx hb dX9_putWord_29 (by decide) ?_
          refine lv_idiv hx hb dX9_putWord_31 (by decide) ?_
          refine lv_topi (fun v_60213 v_60213_e => ?_)
          have ud_9 := i32_27 v_60213_e (by have z_0 := tk_0; (first | (clear h_tll hw0 h_x_60200 h_x_60201 c_60204_i h_60206 di_9 h_60209 c_60210_i h_60211; omega) | omega))
          have h_60214 : 0 ≤ (v_60213 : Int32).toInt ∧ (v_60213 : Int32).toInt ≤ 14348907 := by have q9 := ud_9; (first | (clear h_tll hw0 h_x_60200 h_x_60201 c_60204_i h_60206 di_9 h_60209 c_60210_i h_60211; omega) | omega)
          refine lv_istore_n (lv' := [(2, .int v_60213), (3, .int v_60208), (0, .ref tl), (1, .int p0)]) hx hb dX9_putWord_32 rfl hl (by decide) rfl (fun ls hl => ?_)
          refine lv_goto (tgt := 3) hx hb dX9_putWord_33 (by decide) ?_
          exact ih_60203 v_60213 x_60201 f_60202 H _ ls (tr_w h_60214 (by decide) (by decide)) (tr_w h_x_60201 (by decide) (by decide)) (TXS.wd0 hr60203_0 (by have z_0 := tk_0; omega) ud_9.1 (by rw [← di_9]; have z_0 := tk_0; omega)) (by omega) (hP.sub [0, 1] rfl) (hD.sub [0, 1] (by decide) rfl) hS (lv_sub hl [0, 2, 3] rfl)
        · skip
          have c_60210_i := Int32.lt_iff_toInt_lt.mp (Int32.not_le.mp c_60210)
          have h_60212 : 1 ≤ (v_60208 : Int32).toInt ∧ (v_60208 : Int32).toInt ≤ 26 := nr_lt_r (⟨by decide, by decide⟩ : 0 ≤ (0 : Int32).toInt ∧ (0 : Int32).toInt ≤ 0) h_60209 c_60210_i (by decide) (by decide)
          refine lv_aload_n hx hb dX9_putWord_18 rfl (lv_at hl 2 rfl) ?_
          refine lv_bipush (v := 97) hx hb dX9_putWord_19 (by decide) ?_
          refine lv_iload_n hx hb dX9_putWord_21 rfl (lv_at hl 0 rfl) ?_
          refine lv_iadd hx hb dX9_putWord_22 ?_
          refine lv_topi (fun v_60215 v_60215_e => ?_)
          have h_v_60215 : 98 ≤ (v_60215 : Int32).toInt ∧ (v_60215 : Int32).toInt ≤ 123 := by rw [v_60215_e]; exact tr_add (⟨by decide, by decide⟩ : 97 ≤ (97 : Int32).toInt ∧ (97 : Int32).toInt ≤ 97) h_60212 (by decide) (by decide) (by decide) (by decide)
          have q_v_60215 : v_60215.toInt = 97 + v_60208.toInt := by rw [v_60215_e]; exact (tr_addX (⟨by decide, by decide⟩ : 97 ≤ (97 : Int32).toInt ∧ (97 : Int32).toInt ≤ 97) h_60212 (by decide) (by decide)).trans (by rw [tk_97])
          refine lv_iconst (v := 1) hx hb dX9_putWord_23 (by decide) ?_
          refine lv_isub hx hb dX9_putWord_24 ?_
          refine lv_topi (fun v_60216 v_60216_e => ?_)
          have h_v_60216 : 97 ≤ (v_60216 : Int32).toInt ∧ (v_60216 : Int32).toInt ≤ 122 := by rw [v_60216_e]; exact tr_sub h_v_60215 (⟨by decide, by decide⟩ : 1 ≤ (1 : Int32).toInt ∧ (1 : Int32).toInt ≤ 1) (by decide) (by decide) (by decide) (by decide)
          have q_v_60216 : v_60216.toInt = v_60215.toInt - 1 := by rw [v_60216_e]; exact tr_subE h_v_60215 (⟨by decide, by decide⟩ : 1 ≤ (1 : Int32).toInt ∧ (1 : Int32).toInt ≤ 1) (by decide) (by decide)
          have hPc := hP.sub (ws' := [(wO9 tl tl_bytes x_60201), (wI g tl_bytes 0 700 f_60202)]) [0, 1] rfl
          have hDc := hD.sub (ws' := [(wO9 tl tl_bytes x_60201), (wI g tl_bytes 0 700 f_60202)]) [0, 1] (by decide) rfl
          have hFc := va_free (wc := [(wO9 tl tl_bytes x_60201), (wI g tl_bytes 0 700 f_60202)]) hD hS hA [0, 1] rfl
          refine va_callv (va_runV (As := [.int v_60216]) (rest := []) ⟨hx, hb, hml, hown, hts⟩ (c_X9_putT l D g H.size tl v_60216 tl_bytes x_60201 f_60202 (tr_w h_x_60201 (by decide) (by decide))) (cwV 1 hts (tz_gV qw_348 qw_349 qw_350 qw_351 qw_352) rfl rfl rfl (by decide +kernel) ⟨Nat.le_of_ble_eq_true rfl, Nat.le_of_ble_eq_true rfl⟩) ⟨tz_blQ, va_recv hK hPc (ci := 9) (q0 := 0) rfl rfl, tz_preQ hPc hK hDc⟩ rfl rfl hl.1 rfl (lv_room (Nat.le_of_ble_eq_true rfl)) dX9_putWord_25 ⟨Nat.le_of_ble_eq_true rfl, Nat.le_of_ble_eq_true rfl⟩) hS (fun q _ h => hFc q h) hFc (fun u t H1 locs ht hvm hw hB hz1 hk1 hS => ?_)
          obtain ⟨otl_60218, otf_60219, hf_60220, hf_60221, hP1, hD1⟩ := hB
          rw [ht] at hP1
          obtain ⟨hP, hD⟩ := va_join (wr := []) (w1 := [(wO9 tl tl_bytes otl_60218), (wI g tl_bytes 0 700 otf_60219)]) hP hD [0, 1] [] rfl rfl (by decide) (by decide) hk1 hFc hP1 hD1
          generalize H1 = H at hP hS ⊢
          have hP : va_P D vwCl [(wO9 tl tl_bytes otl_60218), (wI g tl_bytes 0 700 otf_60219)] H := hP
          have hD : va_D A [(wO9 tl tl_bytes otl_60218), (wI g tl_bytes 0 700 otf_60219)] := hD
          refine lv_iload_n hx hb dX9_putWord_28 rfl (lv_at hl 1 rfl) ?_
          refine lv_bipush (v := 27) hx hb dX9_putWord_29 (by decide) ?_
          refine lv_idiv hx hb dX9_putWord_31 (by decide) ?_
          refine lv_topi (fun v_60222 v_60222_e => ?_)
          have ud_9 := i32_27 v_60222_e (by have z_0 := tk_0; (first | (clear h_tll hw0 h_x_60200 h_x_60201 c_60204_i h_60206 di_9 h_60209 c_60210_i h_60212 h_v_60215 q_v_60215 h_v_60216 q_v_60216; omega) | omega))
          have h_60223 : 0 ≤ (v_60222 : Int32).toInt ∧ (v_60222 : Int32).toInt ≤ 14348907 := by have q9 := ud_9; (first | (clear h_tll hw0 h_x_60200 h_x_60201 c_60204_i h_60206 di_9 h_60209 c_60210_i h_60212 h_v_60215 q_v_60215 h_v_60216 q_v_60216; omega) | omega)
          refine lv_istore_n (lv' := [(2, .int v_60222), (3, .int v_60208), (0, .ref tl), (1, .int p0)]) hx hb dX9_putWord_32 rfl hl (by decide) rfl (fun ls hl => ?_)
          refine lv_goto (tgt := 3) hx hb dX9_putWord_33 (by decide) ?_
          exact ih_60203 v_60222 otl_60218 otf_60219 H _ ls (tr_w h_60223 (by decide) (by decide)) (tr_w hf_60220 (by decide) (by decide)) (TXS.wd1 hr60203_0 (by have z_0 := tk_0; omega) ud_9.1 hf_60221 (by rw [← di_9]; have z_97 := tk_97; have z_1 := tk_1; omega) (by rw [← di_9]; have z_0 := tk_0; omega)) (by omega) (hP.sub [0, 1] rfl) (hD.sub [0, 1] (by decide) rfl) hS (lv_sub hl [0, 2, 3] rfl)
  exact lp_60203 14348908 14348907 tll tlf s.heap _ ls (⟨by decide, by decide⟩ : 0 ≤ (14348907 : Int32).toInt ∧ (14348907 : Int32).toInt ≤ 14348907) (tr_w h_tll (by decide) (by decide)) (TXS.wdstart (by omega) rfl) (by have z9_0 := tk_14348907; omega) (hP.sub [0, 1] rfl) (hD.sub [0, 1] (by decide) rfl) hS (lv_sub hl [0, 1, 2] rfl)
set_option maxHeartbeats 4000000 in
set_option maxRecDepth 100000 in
theorem c_X9_putSpacedT (l : Launch) (D : va_G) (g : Nat → ClassId) (sz : Nat) (tl : Nat) (p0 : Int32) (tl_bytes : Nat) (tll : Int32) (tlf : Nat → Int32) (h_tll : 0 ≤ (tll : Int32).toInt ∧ (tll : Int32).toInt ≤ 700) (hw0 : 0 ≤ (p0 : Int32).toInt) : Met l yX9_putSpaced (.code yX9_putSpaced cX9_putSpaced 2 none :: wsL_law) ({ frames := 2, cells := 0, slots := 0, locals := 44 }) (va_Pc [.ref tl, .int p0] (fun U => U.heap.size = sz ∧ va_P D vwCl [(wO9 tl tl_bytes tll), (wI g tl_bytes 0 700 tlf)] U.heap ∧ va_K D vwCl (TY g) U ∧ va_D (fun _ => True) [(wO9 tl tl_bytes tll), (wI g tl_bytes 0 700 tlf)])) (va_Qv (fun (_ : Unit) => True) (fun _ t => ∃ otl : Int32, ∃ otf : Nat → Int32, (0 ≤ (otl : Int32).toInt ∧ (otl : Int32).toInt ≤ 700) ∧ (TXS tlf otf (tll : Int32).toInt (otl : Int32).toInt (32 :: wdC (p0 : Int32).toInt)) ∧ va_P D vwCl [(wO9 tl tl_bytes otl), (wI g tl_bytes 0 700 otf)] t.heap ∧ va_D (va_A [(wO9 tl tl_bytes tll), (wI g tl_bytes 0 700 tlf)] sz) [(wO9 tl tl_bytes otl), (wI g tl_bytes 0 700 otf)]) (va_A [(wO9 tl tl_bytes tll), (wI g tl_bytes 0 700 tlf)] sz)) 0 0 (va_A [(wO9 tl tl_bytes tll), (wI g tl_bytes 0 700 tlf)] sz) := by
  refine Met.ofW (cc := cX9_putSpaced) (maxL := 2) (ret := none) (by decide) rfl ?_
  intro p e s m args below meth c s₁ B hml hv
  obtain ⟨ha, hsz, hP, hK, hD0⟩ := hv
  have hx := B.exec
  have hb := B.bytes
  have hr := B.returns
  have hts0 := atoms_spec (ws := (.code yX9_putSpaced cX9_putSpaced 2 none :: wsL_law)) B.pre
  have hts : ∀ w ∈ wsL_law, w.before args s = true := fun w h => hts0 w (List.mem_cons_of_mem _ h)
  have hown : s.vm.findClass RX9 = some m.cls := findClass_of_methodNamed B.named
  have hlocks := B.notSynchronized
  subst hsz
  have hD := hD0.self (sz := s.heap.size)
  generalize hAe : va_A [(wO9 tl tl_bytes tll), (wI g tl_bytes 0 700 tlf)] s.heap.size = A at hD ⊢
  have hA : ∀ q : Nat, s.heap.size ≤ q → A q := fun q h => by rw [← hAe]; exact Or.inr h
  have hS : va_S A s.heap s.heap [] := va_S.rf
  have hP : va_P D vwCl [(wO9 tl tl_bytes tll), (wI g tl_bytes 0 700 tlf)] s.heap := hP
  refine W.eq (g2 := entryFrame m ([.ref tl, .int p0] : List Value).toArray 2) (by rw [ha]) ?_
  have hl := lv_entry ([.ref tl, .int p0]) (n := 2) (Nat.le_of_ble_eq_true rfl)
  rw [lg_entry_eq]
  generalize (lg_sl ([.ref tl, .int p0]) ++ List.replicate (2 - (lg_sl ([.ref tl, .int p0])).length) Slot.unset).toArray = ls at hl ⊢
  have hl : lv_has ls 2 [(0, .ref tl), (1, .int p0)] := hl
  refine lv_aload_n hx hb dX9_putSpaced_0 rfl (lv_at hl 0 rfl) ?_
  refine lv_bipush (v := 32) hx hb dX9_putSpaced_1 (by decide) ?_
  have hPc := hP.sub (ws' := [(wO9 tl tl_bytes tll), (wI g tl_bytes 0 700 tlf)]) [0, 1] rfl
  have hDc := hD.sub (ws' := [(wO9 tl tl_bytes tll), (wI g tl_bytes 0 700 tlf)]) [0, 1] (by decide) rfl
  have hFc := va_free (wc := [(wO9 tl tl_bytes tll), (wI g tl_bytes 0 700 tlf)]) hD hS hA [0, 1] rfl
  refine va_callv (va_runV (As := [.int 32]) (rest := []) ⟨hx, hb, hml, hown, hts⟩ (c_X9_putT l D g s.heap.size tl 32 tl_bytes tll tlf (tr_w h_tll (by decide) (by decide))) (cwV 1 hts (tz_gV qw_348 qw_349 qw_350 qw_351 qw_352) rfl rfl rfl (by decide +kernel) ⟨Nat.le_of_ble_eq_true rfl, Nat.le_of_ble_eq_true rfl⟩) ⟨tz_blQ, va_recv hK hPc (ci := 9) (q0 := 0) rfl rfl, tz_preQ hPc hK hDc⟩ rfl rfl hl.1 rfl (lv_room (Nat.le_of_ble_eq_true rfl)) dX9_putSpaced_3 ⟨Nat.le_of_ble_eq_true rfl, Nat.le_of_ble_eq_true rfl⟩) hS (fun q _ h => hFc q h) hFc (fun u t H1 locs ht hvm hw hB hz1 hk1 hS => ?_)
  obtain ⟨otl_60225, otf_60226, hf_60227, hf_60228, hP1, hD1⟩ := hB
  rw [ht] at hP1
  obtain ⟨hP, hD⟩ := va_join (wr := []) (w1 := [(wO9 tl tl_bytes otl_60225), (wI g tl_bytes 0 700 otf_60226)]) hP hD [0, 1] [] rfl rfl (by decide) (by decide) hk1 hFc hP1 hD1
  generalize H1 = H at hP hS ⊢
  have hP : va_P D vwCl [(wO9 tl tl_bytes otl_60225), (wI g tl_bytes 0 700 otf_60226)] H := hP
  have hD : va_D A [(wO9 tl tl_bytes otl_60225), (wI g tl_bytes 0 700 otf_60226)] := hD
  refine lv_aload_n hx hb dX9_putSpaced_6 rfl (lv_at hl 0 rfl) ?_
  refine lv_iload_n hx hb dX9_putSpaced_7 rfl (lv_at hl 1 rfl) ?_
  have hPc := hP.sub (ws' := [(wO9 tl tl_bytes otl_60225), (wI g tl_bytes 0 700 otf_60226)]) [0, 1] rfl
  have hDc := hD.sub (ws' := [(wO9 tl tl_bytes otl_60225), (wI g tl_bytes 0 700 otf_60226)]) [0, 1] (by decide) rfl
  have hFc := va_free (wc := [(wO9 tl tl_bytes otl_60225), (wI g tl_bytes 0 700 otf_60226)]) hD hS hA [0, 1] rfl
  refine va_callv (va_runV (As := [.int p0]) (rest := []) ⟨hx, hb, hml, hown, hts⟩ (c_X9_putWordT l D g H.size tl p0 tl_bytes otl_60225 otf_60226 (tr_w hf_60227 (by decide) (by decide)) hw0) (cwV 1 hts (tz_gV qw_354 qw_355 qw_356 qw_351 qw_357) rfl rfl rfl (by decide +kernel) ⟨Nat.le_of_ble_eq_true rfl, Nat.le_of_ble_eq_true rfl⟩) ⟨tz_blQ, va_recv hK hPc (ci := 9) (q0 := 0) rfl rfl, tz_preQ hPc hK hDc⟩ rfl rfl hl.1 rfl (lv_room (Nat.le_of_ble_eq_true rfl)) dX9_putSpaced_8 ⟨Nat.le_of_ble_eq_true rfl, Nat.le_of_ble_eq_true rfl⟩) hS (fun q _ h => hFc q h) hFc (fun u t H1 locs ht hvm hw hB hz1 hk1 hS => ?_)
  obtain ⟨otl_60230, otf_60231, hf_60232, hf_60233, hP1, hD1⟩ := hB
  rw [ht] at hP1
  obtain ⟨hP, hD⟩ := va_join (wr := []) (w1 := [(wO9 tl tl_bytes otl_60230), (wI g tl_bytes 0 700 otf_60231)]) hP hD [0, 1] [] rfl rfl (by decide) (by decide) hk1 hFc hP1 hD1
  generalize H1 = H at hP hS ⊢
  have hP : va_P D vwCl [(wO9 tl tl_bytes otl_60230), (wI g tl_bytes 0 700 otf_60231)] H := hP
  have hD : va_D A [(wO9 tl tl_bytes otl_60230), (wI g tl_bytes 0 700 otf_60231)] := hD
  have hP9 := hP.sub (ws' := [(wO9 tl tl_bytes otl_60230), (wI g tl_bytes 0 700 otf_60231)]) [0, 1] rfl
  have hD9 := hD.sub (ws' := [(wO9 tl tl_bytes otl_60230), (wI g tl_bytes 0 700 otf_60231)]) [0, 1] (by decide) rfl
  exact W.vret hx hb hr (fun t ht hW => ⟨⟨(), rfl, trivial, otl_60230, otf_60231, (tr_w hf_60232 (by decide) (by decide)), (TXS.cons hf_60228 hf_60233 tk_32), by rw [ht]; exact hP9, hD9⟩, hS.F ht⟩) hS.2.2 dX9_putSpaced_11
theorem qw_590 : Cond.instanceMethod yX2_weight ∈ wsL_law := tseg_4 (by decide +kernel) (List.mem_of_getElem? (i := 35) (by decide +kernel))
theorem qw_591 : Cond.selects RX2 yX2_weight yX2_weight ∈ wsL_law := tseg_4 (by decide +kernel) (List.mem_of_getElem? (i := 36) (by decide +kernel))
theorem qw_592 : Cond.code yX2_weight cX2_weight 3 (some .int) ∈ wsL_law := tseg_4 (by decide +kernel) (List.mem_of_getElem? (i := 37) (by decide +kernel))
/-- what a throw needs beside the good words -/
def ZT (A : Nat → Prop) (U : State) (H : Heap) : Prop := vx_Zq Bundle.tN "UNASSIGNED_STACK" Bundle.steD A U H ∧ vx_Zq Bundle.tN "SUPPRESSED_SENTINEL" Bundle.listD A U H ∧ va_Nw (.declares (Bundle.init0 "java/lang/RuntimeException")) U ∧ va_Nw (.declares (Bundle.init0 "java/lang/Exception")) U ∧ va_Nw (.declares (Bundle.init0 Bundle.tN)) U ∧ va_Nw (.castable "java/util/NoSuchElementException" "java/util/NoSuchElementException") U
theorem ZT.kept {A B : Nat → Prop} {s : State} {H0 H : Heap} {locs : List Loc} (h : ZT A s H0) (hS : va_S A H0 H locs) (hB : ∀ q, B q → A q) : ZT B s H := by
  obtain ⟨h1, h2, h3⟩ := h
  exact ⟨(h1.kept hS.2.1).narrow hB, (h2.kept hS.2.1).narrow hB, h3⟩
theorem qw_696 : Cond.fieldLink RX11 39 "ChanceRings" "reader" "LChanceRings$Reader;" ∈ wsL_law := tseg_2 (by decide +kernel) (List.mem_of_getElem? (i := 145) (by decide +kernel))
theorem qw_702 : Cond.fieldLink RX11 19 "ChanceRings" "net" "LChanceRings$Net;" ∈ wsL_law := tseg_2 (by decide +kernel) (List.mem_of_getElem? (i := 141) (by decide +kernel))
theorem qw_713 : Cond.initialized RX11 ∈ wsL_law := tseg_1 (by decide +kernel) (List.mem_of_getElem? (i := 1) (by decide +kernel))
theorem qw_823 : Cond.fieldLink RX9 19 "ChanceRings$Net" "nodes" "I" ∈ wsL_law := tseg_1 (by decide +kernel) (List.mem_of_getElem? (i := 56) (by decide +kernel))
theorem qw_824 : Cond.fieldLink RX9 51 "ChanceRings$Net" "ways" "[I" ∈ wsL_law := tseg_1 (by decide +kernel) (List.mem_of_getElem? (i := 79) (by decide +kernel))
theorem qw_825 : Cond.fieldLink RX9 54 "ChanceRings$Reader" "wayWord" "I" ∈ wsL_law := tseg_1 (by decide +kernel) (List.mem_of_getElem? (i := 177) (by decide +kernel))
theorem qw_826 : Cond.fieldLink RX9 36 "ChanceRings$Net" "name" "[I" ∈ wsL_law := tseg_1 (by decide +kernel) (List.mem_of_getElem? (i := 77) (by decide +kernel))
theorem qw_827 : Cond.methodLink RX9 39 yX9_putSpaced ∈ wsL_law := tseg_4 (by decide +kernel) (List.mem_of_getElem? (i := 184) (by decide +kernel))
theorem qw_828 : Cond.instanceMethod yX9_putSpaced ∈ wsL_law := tseg_4 (by decide +kernel) (List.mem_of_getElem? (i := 186) (by decide +kernel))
theorem qw_829 : Cond.selects RX9 yX9_putSpaced yX9_putSpaced ∈ wsL_law := List.mem_filter.mpr ⟨List.mem_append_left _ (List.mem_of_getElem? (i := 44) (by decide +kernel)), by decide +kernel⟩
theorem qw_830 : Cond.code yX9_putSpaced cX9_putSpaced 2 none ∈ wsL_law := tseg_4 (by decide +kernel) (List.mem_of_getElem? (i := 187) (by decide +kernel))
theorem qw_831 : Cond.methodLink RX9 57 yX2_target ∈ wsL_law := tseg_4 (by decide +kernel) (List.mem_of_getElem? (i := 192) (by decide +kernel))
theorem qw_832 : Cond.fieldLink RX9 29 "ChanceRings$Net" "kind" "[I" ∈ wsL_law := tseg_1 (by decide +kernel) (List.mem_of_getElem? (i := 64) (by decide +kernel))
theorem qw_833 : Cond.methodLink RX9 61 yX2_weight ∈ wsL_law := tseg_4 (by decide +kernel) (List.mem_of_getElem? (i := 193) (by decide +kernel))
theorem qw_834 : Cond.methodLink RX9 45 yX9_putDigit ∈ wsL_law := tseg_4 (by decide +kernel) (List.mem_of_getElem? (i := 188) (by decide +kernel))
theorem qw_835 : Cond.instanceMethod yX9_putDigit ∈ wsL_law := tseg_4 (by decide +kernel) (List.mem_of_getElem? (i := 190) (by decide +kernel))
theorem qw_836 : Cond.selects RX9 yX9_putDigit yX9_putDigit ∈ wsL_law := List.mem_filter.mpr ⟨List.mem_append_left _ (List.mem_of_getElem? (i := 45) (by decide +kernel)), by decide +kernel⟩
theorem qw_837 : Cond.code yX9_putDigit cX9_putDigit 2 none ∈ wsL_law := tseg_4 (by decide +kernel) (List.mem_of_getElem? (i := 191) (by decide +kernel))
theorem qw_838 : Cond.fieldLink RX9 24 "ChanceRings$Reader" "kindWords" "[I" ∈ wsL_law := tseg_1 (by decide +kernel) (List.mem_of_getElem? (i := 175) (by decide +kernel))
theorem qw_839 : Cond.fieldLink RX9 42 "ChanceRings$Net" "pay" "[I" ∈ wsL_law := tseg_1 (by decide +kernel) (List.mem_of_getElem? (i := 71) (by decide +kernel))
theorem qw_840 : Cond.fieldLink RX11 53 "ChanceRings" "telling" "LChanceRings$Telling;" ∈ wsL_law := tseg_2 (by decide +kernel) (List.mem_of_getElem? (i := 147) (by decide +kernel))
theorem qw_841 : Cond.methodLink RX11 262 yX9_tell ∈ wsL_law := tseg_4 (by decide +kernel) (List.mem_of_getElem? (i := 171) (by decide +kernel))
theorem qw_842 : Cond.instanceMethod yX9_tell ∈ wsL_law := tseg_4 (by decide +kernel) (List.mem_of_getElem? (i := 172) (by decide +kernel))
theorem qw_843 : Cond.selects RX9 yX9_tell yX9_tell ∈ wsL_law := tseg_4 (by decide +kernel) (List.mem_of_getElem? (i := 173) (by decide +kernel))
theorem qw_844 : Cond.code yX9_tell cX9_tell 5 none ∈ wsL_law := tseg_4 (by decide +kernel) (List.mem_of_getElem? (i := 174) (by decide +kernel))
theorem qw_845 : Cond.fieldLink RX11 266 "ChanceRings$Telling" "length" "I" ∈ wsL_law := tseg_2 (by decide +kernel) (List.mem_of_getElem? (i := 1) (by decide +kernel))
theorem qw_846 : Cond.fieldLink RX11 267 "ChanceRings$Telling" "bytes" "[I" ∈ wsL_law := tseg_1 (by decide +kernel) (List.mem_of_getElem? (i := 239) (by decide +kernel))
theorem dX11_byteAt_0 : decode cX11_byteAt 0 = .ok (.iload_n 1, 1) := by decide +kernel
theorem dX11_byteAt_1 : decode cX11_byteAt 1 = .ok (.ifCond .lt 26, 3) := by decide +kernel
theorem dX11_byteAt_4 : decode cX11_byteAt 4 = .ok (.iload_n 1, 1) := by decide +kernel
theorem dX11_byteAt_5 : decode cX11_byteAt 5 = .ok (.aload_n 0, 1) := by decide +kernel
theorem dX11_byteAt_6 : decode cX11_byteAt 6 = .ok (.getfield 53, 3) := by decide +kernel
theorem dX11_byteAt_9 : decode cX11_byteAt 9 = .ok (.getfield 266, 3) := by decide +kernel
theorem dX11_byteAt_12 : decode cX11_byteAt 12 = .ok (.if_icmp .ge 15, 3) := by decide +kernel
theorem dX11_byteAt_15 : decode cX11_byteAt 15 = .ok (.aload_n 0, 1) := by decide +kernel
theorem dX11_byteAt_16 : decode cX11_byteAt 16 = .ok (.getfield 53, 3) := by decide +kernel
theorem dX11_byteAt_19 : decode cX11_byteAt 19 = .ok (.getfield 267, 3) := by decide +kernel
theorem dX11_byteAt_22 : decode cX11_byteAt 22 = .ok (.iload_n 1, 1) := by decide +kernel
theorem dX11_byteAt_23 : decode cX11_byteAt 23 = .ok (.iaload, 1) := by decide +kernel
theorem dX11_byteAt_24 : decode cX11_byteAt 24 = .ok (.goto 4, 3) := by decide +kernel
theorem dX11_byteAt_27 : decode cX11_byteAt 27 = .ok (.iconst (-1), 1) := by decide +kernel
theorem dX11_byteAt_28 : decode cX11_byteAt 28 = .ok (.ireturn, 1) := by decide +kernel
theorem dX11_text_0 : decode cX11_text 0 = .ok (.aload_n 0, 1) := by decide +kernel
theorem dX11_text_1 : decode cX11_text 1 = .ok (.getfield 53, 3) := by decide +kernel
theorem dX11_text_4 : decode cX11_text 4 = .ok (.aload_n 0, 1) := by decide +kernel
theorem dX11_text_5 : decode cX11_text 5 = .ok (.getfield 19, 3) := by decide +kernel
theorem dX11_text_8 : decode cX11_text 8 = .ok (.aload_n 0, 1) := by decide +kernel
theorem dX11_text_9 : decode cX11_text 9 = .ok (.getfield 39, 3) := by decide +kernel
theorem dX11_text_12 : decode cX11_text 12 = .ok (.invokevirtual 262, 3) := by decide +kernel
theorem dX11_text_15 : decode cX11_text 15 = .ok (.aload_n 0, 1) := by decide +kernel
theorem dX11_text_16 : decode cX11_text 16 = .ok (.getfield 53, 3) := by decide +kernel
theorem dX11_text_19 : decode cX11_text 19 = .ok (.getfield 266, 3) := by decide +kernel
theorem dX11_text_22 : decode cX11_text 22 = .ok (.ireturn, 1) := by decide +kernel
theorem dX9_tell_0 : decode cX9_tell 0 = .ok (.aload_n 0, 1) := by decide +kernel
theorem dX9_tell_1 : decode cX9_tell 1 = .ok (.iconst 0, 1) := by decide +kernel
theorem dX9_tell_2 : decode cX9_tell 2 = .ok (.putfield 15, 3) := by decide +kernel
theorem dX9_tell_5 : decode cX9_tell 5 = .ok (.iconst 0, 1) := by decide +kernel
theorem dX9_tell_6 : decode cX9_tell 6 = .ok (.istore_n 3, 1) := by decide +kernel
theorem dX9_tell_7 : decode cX9_tell 7 = .ok (.iload_n 3, 1) := by decide +kernel
theorem dX9_tell_8 : decode cX9_tell 8 = .ok (.aload_n 1, 1) := by decide +kernel
theorem dX9_tell_9 : decode cX9_tell 9 = .ok (.getfield 19, 3) := by decide +kernel
theorem dX9_tell_12 : decode cX9_tell 12 = .ok (.if_icmp .ge 59, 3) := by decide +kernel
theorem dX9_tell_15 : decode cX9_tell 15 = .ok (.aload_n 0, 1) := by decide +kernel
theorem dX9_tell_16 : decode cX9_tell 16 = .ok (.aload_n 2, 1) := by decide +kernel
theorem dX9_tell_17 : decode cX9_tell 17 = .ok (.getfield 24, 3) := by decide +kernel
theorem dX9_tell_20 : decode cX9_tell 20 = .ok (.aload_n 1, 1) := by decide +kernel
theorem dX9_tell_21 : decode cX9_tell 21 = .ok (.getfield 29, 3) := by decide +kernel
theorem dX9_tell_24 : decode cX9_tell 24 = .ok (.iload_n 3, 1) := by decide +kernel
theorem dX9_tell_25 : decode cX9_tell 25 = .ok (.iaload, 1) := by decide +kernel
theorem dX9_tell_26 : decode cX9_tell 26 = .ok (.iaload, 1) := by decide +kernel
theorem dX9_tell_27 : decode cX9_tell 27 = .ok (.invokevirtual 32, 3) := by decide +kernel
theorem dX9_tell_30 : decode cX9_tell 30 = .ok (.aload_n 0, 1) := by decide +kernel
theorem dX9_tell_31 : decode cX9_tell 31 = .ok (.aload_n 1, 1) := by decide +kernel
theorem dX9_tell_32 : decode cX9_tell 32 = .ok (.getfield 36, 3) := by decide +kernel
theorem dX9_tell_35 : decode cX9_tell 35 = .ok (.iload_n 3, 1) := by decide +kernel
theorem dX9_tell_36 : decode cX9_tell 36 = .ok (.iaload, 1) := by decide +kernel
theorem dX9_tell_37 : decode cX9_tell 37 = .ok (.invokevirtual 39, 3) := by decide +kernel
theorem dX9_tell_40 : decode cX9_tell 40 = .ok (.aload_n 1, 1) := by decide +kernel
theorem dX9_tell_41 : decode cX9_tell 41 = .ok (.getfield 29, 3) := by decide +kernel
theorem dX9_tell_44 : decode cX9_tell 44 = .ok (.iload_n 3, 1) := by decide +kernel
theorem dX9_tell_45 : decode cX9_tell 45 = .ok (.iaload, 1) := by decide +kernel
theorem dX9_tell_46 : decode cX9_tell 46 = .ok (.ifCond .ne 13, 3) := by decide +kernel
theorem dX9_tell_49 : decode cX9_tell 49 = .ok (.aload_n 0, 1) := by decide +kernel
theorem dX9_tell_50 : decode cX9_tell 50 = .ok (.aload_n 1, 1) := by decide +kernel
theorem dX9_tell_51 : decode cX9_tell 51 = .ok (.getfield 42, 3) := by decide +kernel
theorem dX9_tell_54 : decode cX9_tell 54 = .ok (.iload_n 3, 1) := by decide +kernel
theorem dX9_tell_55 : decode cX9_tell 55 = .ok (.iaload, 1) := by decide +kernel
theorem dX9_tell_56 : decode cX9_tell 56 = .ok (.invokevirtual 45, 3) := by decide +kernel
theorem dX9_tell_59 : decode cX9_tell 59 = .ok (.aload_n 0, 1) := by decide +kernel
theorem dX9_tell_60 : decode cX9_tell 60 = .ok (.bipush 59, 2) := by decide +kernel
theorem dX9_tell_62 : decode cX9_tell 62 = .ok (.invokevirtual 48, 3) := by decide +kernel
theorem dX9_tell_65 : decode cX9_tell 65 = .ok (.iinc 3 1, 3) := by decide +kernel
theorem dX9_tell_68 : decode cX9_tell 68 = .ok (.goto (-61), 3) := by decide +kernel
theorem dX9_tell_71 : decode cX9_tell 71 = .ok (.iconst 0, 1) := by decide +kernel
theorem dX9_tell_72 : decode cX9_tell 72 = .ok (.istore_n 3, 1) := by decide +kernel
theorem dX9_tell_73 : decode cX9_tell 73 = .ok (.iload_n 3, 1) := by decide +kernel
theorem dX9_tell_74 : decode cX9_tell 74 = .ok (.aload_n 1, 1) := by decide +kernel
theorem dX9_tell_75 : decode cX9_tell 75 = .ok (.getfield 19, 3) := by decide +kernel
theorem dX9_tell_78 : decode cX9_tell 78 = .ok (.if_icmp .ge 90, 3) := by decide +kernel
theorem dX9_tell_81 : decode cX9_tell 81 = .ok (.iconst 0, 1) := by decide +kernel
theorem dX9_tell_82 : decode cX9_tell 82 = .ok (.istore 4, 2) := by decide +kernel
theorem dX9_tell_84 : decode cX9_tell 84 = .ok (.iload 4, 2) := by decide +kernel
theorem dX9_tell_86 : decode cX9_tell 86 = .ok (.aload_n 1, 1) := by decide +kernel
theorem dX9_tell_87 : decode cX9_tell 87 = .ok (.getfield 51, 3) := by decide +kernel
theorem dX9_tell_90 : decode cX9_tell 90 = .ok (.iload_n 3, 1) := by decide +kernel
theorem dX9_tell_91 : decode cX9_tell 91 = .ok (.iaload, 1) := by decide +kernel
theorem dX9_tell_92 : decode cX9_tell 92 = .ok (.if_icmp .ge 70, 3) := by decide +kernel
theorem dX9_tell_95 : decode cX9_tell 95 = .ok (.aload_n 0, 1) := by decide +kernel
theorem dX9_tell_96 : decode cX9_tell 96 = .ok (.aload_n 2, 1) := by decide +kernel
theorem dX9_tell_97 : decode cX9_tell 97 = .ok (.getfield 54, 3) := by decide +kernel
theorem dX9_tell_100 : decode cX9_tell 100 = .ok (.invokevirtual 32, 3) := by decide +kernel
theorem dX9_tell_103 : decode cX9_tell 103 = .ok (.aload_n 0, 1) := by decide +kernel
theorem dX9_tell_104 : decode cX9_tell 104 = .ok (.aload_n 1, 1) := by decide +kernel
theorem dX9_tell_105 : decode cX9_tell 105 = .ok (.getfield 36, 3) := by decide +kernel
theorem dX9_tell_108 : decode cX9_tell 108 = .ok (.iload_n 3, 1) := by decide +kernel
theorem dX9_tell_109 : decode cX9_tell 109 = .ok (.iaload, 1) := by decide +kernel
theorem dX9_tell_110 : decode cX9_tell 110 = .ok (.invokevirtual 39, 3) := by decide +kernel
theorem dX9_tell_113 : decode cX9_tell 113 = .ok (.aload_n 0, 1) := by decide +kernel
theorem dX9_tell_114 : decode cX9_tell 114 = .ok (.aload_n 1, 1) := by decide +kernel
theorem dX9_tell_115 : decode cX9_tell 115 = .ok (.getfield 36, 3) := by decide +kernel
theorem dX9_tell_118 : decode cX9_tell 118 = .ok (.aload_n 1, 1) := by decide +kernel
theorem dX9_tell_119 : decode cX9_tell 119 = .ok (.iload_n 3, 1) := by decide +kernel
theorem dX9_tell_120 : decode cX9_tell 120 = .ok (.iload 4, 2) := by decide +kernel
theorem dX9_tell_122 : decode cX9_tell 122 = .ok (.invokevirtual 57, 3) := by decide +kernel
theorem dX9_tell_125 : decode cX9_tell 125 = .ok (.iaload, 1) := by decide +kernel
theorem dX9_tell_126 : decode cX9_tell 126 = .ok (.invokevirtual 39, 3) := by decide +kernel
theorem dX9_tell_129 : decode cX9_tell 129 = .ok (.aload_n 1, 1) := by decide +kernel
theorem dX9_tell_130 : decode cX9_tell 130 = .ok (.getfield 29, 3) := by decide +kernel
theorem dX9_tell_133 : decode cX9_tell 133 = .ok (.iload_n 3, 1) := by decide +kernel
theorem dX9_tell_134 : decode cX9_tell 134 = .ok (.iaload, 1) := by decide +kernel
theorem dX9_tell_135 : decode cX9_tell 135 = .ok (.iconst 3, 1) := by decide +kernel
theorem dX9_tell_136 : decode cX9_tell 136 = .ok (.if_icmp .ne 14, 3) := by decide +kernel
theorem dX9_tell_139 : decode cX9_tell 139 = .ok (.aload_n 0, 1) := by decide +kernel
theorem dX9_tell_140 : decode cX9_tell 140 = .ok (.aload_n 1, 1) := by decide +kernel
theorem dX9_tell_141 : decode cX9_tell 141 = .ok (.iload_n 3, 1) := by decide +kernel
theorem dX9_tell_142 : decode cX9_tell 142 = .ok (.iload 4, 2) := by decide +kernel
theorem dX9_tell_144 : decode cX9_tell 144 = .ok (.invokevirtual 61, 3) := by decide +kernel
theorem dX9_tell_147 : decode cX9_tell 147 = .ok (.invokevirtual 45, 3) := by decide +kernel
theorem dX9_tell_150 : decode cX9_tell 150 = .ok (.aload_n 0, 1) := by decide +kernel
theorem dX9_tell_151 : decode cX9_tell 151 = .ok (.bipush 59, 2) := by decide +kernel
theorem dX9_tell_153 : decode cX9_tell 153 = .ok (.invokevirtual 48, 3) := by decide +kernel
theorem dX9_tell_156 : decode cX9_tell 156 = .ok (.iinc 4 1, 3) := by decide +kernel
theorem dX9_tell_159 : decode cX9_tell 159 = .ok (.goto (-75), 3) := by decide +kernel
theorem dX9_tell_162 : decode cX9_tell 162 = .ok (.iinc 3 1, 3) := by decide +kernel
theorem dX9_tell_165 : decode cX9_tell 165 = .ok (.goto (-92), 3) := by decide +kernel
theorem dX9_tell_168 : decode cX9_tell 168 = .ok (.return_, 1) := by decide +kernel
set_option maxHeartbeats 4000000 in
set_option maxRecDepth 100000 in
theorem c_X9_tellT (l : Launch) (D : va_G) (g : Nat → ClassId) (sz : Nat) (tl : Nat) (n : Nat) (rd : Nat) (tl_bytes : Nat) (tll : Int32) (tlf : Nat → Int32) (n_nodes : Int32) (n_kind : Nat) (n_pay : Nat) (n_name : Nat) (n_ways : Nat) (n_held : Nat) (n_targets : Nat) (n_weights : Nat) (n_fkind : Nat → Int32) (n_fpay : Nat → Int32) (n_fname : Nat → Int32) (n_fways : Nat → Int32) (n_fheld : Nat → Int32) (n_ftargets : Nat → Int32) (n_fweights : Nat → Int32) (tp : Nat) (d : Nat) (rd_kindWords : Nat) (ww : Int32) (fk : Int32) (fp : Int32) (nx : Int32) (tk : Int32) (tpl : Int32) (tv : Int32) (kwf : Nat → Int32) (h_tll : 0 ≤ (tll : Int32).toInt ∧ (tll : Int32).toInt ≤ 700) (h_n_nodes : 0 ≤ (n_nodes : Int32).toInt ∧ (n_nodes : Int32).toInt ≤ 12) (h_n_fkind : ∀ j : Nat, 0 ≤ (n_fkind j).toInt ∧ (n_fkind j).toInt ≤ 3) (h_n_fways : ∀ j : Nat, 0 ≤ (n_fways j).toInt ∧ (n_fways j).toInt ≤ 3) (h_n_fheld : ∀ j : Nat, (-1) ≤ (n_fheld j).toInt ∧ (n_fheld j).toInt ≤ 2) (h_n_ftargets : ∀ j : Nat, 0 ≤ (n_ftargets j).toInt ∧ (n_ftargets j).toInt ≤ 11) (h_fk : 0 ≤ (fk : Int32).toInt ∧ (fk : Int32).toInt ≤ 5) (h_fp : 0 ≤ (fp : Int32).toInt ∧ (fp : Int32).toInt ≤ 440) (h_nx : 0 ≤ (nx : Int32).toInt ∧ (nx : Int32).toInt ≤ 440) (h_tk : 0 ≤ (tk : Int32).toInt ∧ (tk : Int32).toInt ≤ 4) (h_tpl : 0 ≤ (tpl : Int32).toInt ∧ (tpl : Int32).toInt ≤ 440) (hkw : KWs kwf) (hww : (ww : Int32).toInt = 16819) (hnx : NTX n_nodes n_fpay n_fname n_fways n_ftargets n_fweights) : Met l yX9_tell (.code yX9_tell cX9_tell 5 none :: wsL_law) ({ frames := 3, cells := 0, slots := 0, locals := 65 }) (va_Pc [.ref tl, .ref n, .ref rd] (fun U => U.heap.size = sz ∧ va_P D vwCl [(wO9 tl tl_bytes tll), (wI g tl_bytes 0 700 tlf), (wO2 n n_nodes n_kind n_pay n_name n_ways n_held n_targets n_weights), (wI g n_kind 0 12 n_fkind), (wI g n_pay 0 12 n_fpay), (wI g n_name 0 12 n_fname), (wI g n_ways 0 12 n_fways), (wI g n_held 0 12 n_fheld), (wI g n_targets 0 36 n_ftargets), (wI g n_weights 0 36 n_fweights), (wO4 rd tp d rd_kindWords ww fk fp nx tk tpl tv), (wI g rd_kindWords 0 4 kwf)] U.heap ∧ va_K D vwCl (TY g) U ∧ va_D (fun _ => True) [(wO9 tl tl_bytes tll), (wI g tl_bytes 0 700 tlf), (wO2 n n_nodes n_kind n_pay n_name n_ways n_held n_targets n_weights), (wI g n_kind 0 12 n_fkind), (wI g n_pay 0 12 n_fpay), (wI g n_name 0 12 n_fname), (wI g n_ways 0 12 n_fways), (wI g n_held 0 12 n_fheld), (wI g n_targets 0 36 n_ftargets), (wI g n_weights 0 36 n_fweights), (wO4 rd tp d rd_kindWords ww fk fp nx tk tpl tv), (wI g rd_kindWords 0 4 kwf)])) (va_Qv (fun (_ : Unit) => True) (fun _ t => ∃ otl : Int32, ∃ otf : Nat → Int32, (0 ≤ (otl : Int32).toInt ∧ (otl : Int32).toInt ≤ 700) ∧ (TXS tlf otf 0 (otl : Int32).toInt (TXT (absC n_nodes n_fkind n_fpay n_fname n_fways n_fheld n_ftargets n_fweights))) ∧ va_P D vwCl [(wO9 tl tl_bytes otl), (wI g tl_bytes 0 700 otf), (wO2 n n_nodes n_kind n_pay n_name n_ways n_held n_targets n_weights), (wI g n_kind 0 12 n_fkind), (wI g n_pay 0 12 n_fpay), (wI g n_name 0 12 n_fname), (wI g n_ways 0 12 n_fways), (wI g n_held 0 12 n_fheld), (wI g n_targets 0 36 n_ftargets), (wI g n_weights 0 36 n_fweights), (wO4 rd tp d rd_kindWords ww fk fp nx tk tpl tv), (wI g rd_kindWords 0 4 kwf)] t.heap ∧ va_D (va_A [(wO9 tl tl_bytes tll), (wI g tl_bytes 0 700 tlf), (wO2 n n_nodes n_kind n_pay n_name n_ways n_held n_targets n_weights), (wI g n_kind 0 12 n_fkind), (wI g n_pay 0 12 n_fpay), (wI g n_name 0 12 n_fname), (wI g n_ways 0 12 n_fways), (wI g n_held 0 12 n_fheld), (wI g n_targets 0 36 n_ftargets), (wI g n_weights 0 36 n_fweights), (wO4 rd tp d rd_kindWords ww fk fp nx tk tpl tv), (wI g rd_kindWords 0 4 kwf)] sz) [(wO9 tl tl_bytes otl), (wI g tl_bytes 0 700 otf), (wO2 n n_nodes n_kind n_pay n_name n_ways n_held n_targets n_weights), (wI g n_kind 0 12 n_fkind), (wI g n_pay 0 12 n_fpay), (wI g n_name 0 12 n_fname), (wI g n_ways 0 12 n_fways), (wI g n_held 0 12 n_fheld), (wI g n_targets 0 36 n_ftargets), (wI g n_weights 0 36 n_fweights), (wO4 rd tp d rd_kindWords ww fk fp nx tk tpl tv), (wI g rd_kindWords 0 4 kwf)]) (va_A [(wO9 tl tl_bytes tll), (wI g tl_bytes 0 700 tlf), (wO2 n n_nodes n_kind n_pay n_name n_ways n_held n_targets n_weights), (wI g n_kind 0 12 n_fkind), (wI g n_pay 0 12 n_fpay), (wI g n_name 0 12 n_fname), (wI g n_ways 0 12 n_fways), (wI g n_held 0 12 n_fheld), (wI g n_targets 0 36 n_ftargets), (wI g n_weights 0 36 n_fweights), (wO4 rd tp d rd_kindWords ww fk fp nx tk tpl tv), (wI g rd_kindWords 0 4 kwf)] sz)) 0 0 (va_A [(wO9 tl tl_bytes tll), (wI g tl_bytes 0 700 tlf), (wO2 n n_nodes n_kind n_pay n_name n_ways n_held n_targets n_weights), (wI g n_kind 0 12 n_fkind), (wI g n_pay 0 12 n_fpay), (wI g n_name 0 12 n_fname), (wI g n_ways 0 12 n_fways), (wI g n_held 0 12 n_fheld), (wI g n_targets 0 36 n_ftargets), (wI g n_weights 0 36 n_fweights), (wO4 rd tp d rd_kindWords ww fk fp nx tk tpl tv), (wI g rd_kindWords 0 4 kwf)] sz) := by
  refine Met.ofW (cc := cX9_tell) (maxL := 5) (ret := none) (by decide) rfl ?_
  intro p e s m args below meth c s₁ B hml hv
  obtain ⟨ha, hsz, hP, hK, hD0⟩ := hv
  have hx := B.exec
  have hb := B.bytes
  have hr := B.returns
  have hts0 := atoms_spec (ws := (.code yX9_tell cX9_tell 5 none :: wsL_law)) B.pre
  have hts : ∀ w ∈ wsL_law, w.before args s = true := fun w h => hts0 w (List.mem_cons_of_mem _ h)
  have hown : s.vm.findClass RX9 = some m.cls := findClass_of_methodNamed B.named
  have hlocks := B.notSynchronized
  subst hsz
  have hD := hD0.self (sz := s.heap.size)
  generalize hAe : va_A [(wO9 tl tl_bytes tll), (wI g tl_bytes 0 700 tlf), (wO2 n n_nodes n_kind n_pay n_name n_ways n_held n_targets n_weights), (wI g n_kind 0 12 n_fkind), (wI g n_pay 0 12 n_fpay), (wI g n_name 0 12 n_fname), (wI g n_ways 0 12 n_fways), (wI g n_held 0 12 n_fheld), (wI g n_targets 0 36 n_ftargets), (wI g n_weights 0 36 n_fweights), (wO4 rd tp d rd_kindWords ww fk fp nx tk tpl tv), (wI g rd_kindWords 0 4 kwf)] s.heap.size = A at hD ⊢
  have hA : ∀ q : Nat, s.heap.size ≤ q → A q := fun q h => by rw [← hAe]; exact Or.inr h
  have hS : va_S A s.heap s.heap [] := va_S.rf
  have hP : va_P D vwCl [(wO9 tl tl_bytes tll), (wI g tl_bytes 0 700 tlf), (wO2 n n_nodes n_kind n_pay n_name n_ways n_held n_targets n_weights), (wI g n_kind 0 12 n_fkind), (wI g n_pay 0 12 n_fpay), (wI g n_name 0 12 n_fname), (wI g n_ways 0 12 n_fways), (wI g n_held 0 12 n_fheld), (wI g n_targets 0 36 n_ftargets), (wI g n_weights 0 36 n_fweights), (wO4 rd tp d rd_kindWords ww fk fp nx tk tpl tv), (wI g rd_kindWords 0 4 kwf)] s.heap := hP
  refine W.eq (g2 := entryFrame m ([.ref tl, .ref n, .ref rd] : List Value).toArray 5) (by rw [ha]) ?_
  have hl := lv_entry ([.ref tl, .ref n, .ref rd]) (n := 5) (Nat.le_of_ble_eq_true rfl)
  rw [lg_entry_eq]
  generalize (lg_sl ([.ref tl, .ref n, .ref rd]) ++ List.replicate (5 - (lg_sl ([.ref tl, .ref n, .ref rd])).length) Slot.unset).toArray = ls at hl ⊢
  have hl : lv_has ls 5 [(0, .ref tl), (1, .ref n), (2, .ref rd)] := hl
  refine lv_aload_n hx hb dX9_tell_0 rfl (lv_at hl 0 rfl) ?_
  refine lv_iconst (v := 0) hx hb dX9_tell_1 (by decide) ?_
  refine va_put (D := D) (ci := 9) (v := .int 0) (ty := .int) (C := RX9) (T := TX9) (N := 2) hx hb hts inlX9 tyX9 tyX9_ok nmX9 hown hK hP hD hS 0 rfl rfl 1 (by decide) (hts (Cond.fieldLink RX9 15 "ChanceRings$Telling" "length" "I") qw_346) (fun _ h9 => h9) rfl (by decide +kernel) rfl rfl (Nat.le_of_ble_eq_true rfl) dX9_tell_2 (fun H locs hP hD hS => ?_)
  have hP : va_P D vwCl [(wO9 tl tl_bytes 0), (wI g tl_bytes 0 700 tlf), (wO2 n n_nodes n_kind n_pay n_name n_ways n_held n_targets n_weights), (wI g n_kind 0 12 n_fkind), (wI g n_pay 0 12 n_fpay), (wI g n_name 0 12 n_fname), (wI g n_ways 0 12 n_fways), (wI g n_held 0 12 n_fheld), (wI g n_targets 0 36 n_ftargets), (wI g n_weights 0 36 n_fweights), (wO4 rd tp d rd_kindWords ww fk fp nx tk tpl tv), (wI g rd_kindWords 0 4 kwf)] H := hP
  have hD : va_D A [(wO9 tl tl_bytes 0), (wI g tl_bytes 0 700 tlf), (wO2 n n_nodes n_kind n_pay n_name n_ways n_held n_targets n_weights), (wI g n_kind 0 12 n_fkind), (wI g n_pay 0 12 n_fpay), (wI g n_name 0 12 n_fname), (wI g n_ways 0 12 n_fways), (wI g n_held 0 12 n_fheld), (wI g n_targets 0 36 n_ftargets), (wI g n_weights 0 36 n_fweights), (wO4 rd tp d rd_kindWords ww fk fp nx tk tpl tv), (wI g rd_kindWords 0 4 kwf)] := hD
  refine lv_iconst (v := 0) hx hb dX9_tell_5 (by decide) ?_
  refine lv_istore_n (lv' := [(3, .int 0), (0, .ref tl), (1, .ref n), (2, .ref rd)]) hx hb dX9_tell_6 rfl hl (by decide) rfl (fun ls hl => ?_)
  have lp_95373 : ∀ (n_95373 : Nat) (x_95370 : Int32) (x_95371 : Int32) (f_95372 : Nat → Int32) (H : Heap) (locs : List Loc) (ls : Array Slot), (0 ≤ (x_95370 : Int32).toInt ∧ (x_95370 : Int32).toInt ≤ 12) → (0 ≤ (x_95371 : Int32).toInt ∧ (x_95371 : Int32).toInt ≤ 700) → (x_95370.toInt ≤ (n_nodes : Int32).toInt) → (TXS tlf f_95372 0 x_95371.toInt (TXN (absC n_nodes n_fkind n_fpay n_fname n_fways n_fheld n_ftargets n_fweights) x_95370.toInt.toNat)) → (12 - x_95370.toInt < (n_95373 : Int)) → va_P D vwCl [(wO9 tl tl_bytes x_95371), (wI g tl_bytes 0 700 f_95372), (wO2 n n_nodes n_kind n_pay n_name n_ways n_held n_targets n_weights), (wI g n_kind 0 12 n_fkind), (wI g n_pay 0 12 n_fpay), (wI g n_name 0 12 n_fname), (wI g n_ways 0 12 n_fways), (wI g n_held 0 12 n_fheld), (wI g n_targets 0 36 n_ftargets), (wI g n_weights 0 36 n_fweights), (wO4 rd tp d rd_kindWords ww fk fp nx tk tpl tv), (wI g rd_kindWords 0 4 kwf)] H → va_D A [(wO9 tl tl_bytes x_95371), (wI g tl_bytes 0 700 f_95372), (wO2 n n_nodes n_kind n_pay n_name n_ways n_held n_targets n_weights), (wI g n_kind 0 12 n_fkind), (wI g n_pay 0 12 n_fpay), (wI g n_name 0 12 n_fname), (wI g n_ways 0 12 n_fways), (wI g n_held 0 12 n_fheld), (wI g n_targets 0 36 n_ftargets), (wI g n_weights 0 36 n_fweights), (wO4 rd tp d rd_kindWords ww fk fp nx tk tpl tv), (wI g rd_kindWords 0 4 kwf)] → va_S A s.heap H locs → lv_has ls 5 [(3, .int x_95370), (0, .ref tl), (1, .ref n), (2, .ref rd)] → W p l e (headSpec (.code yX9_tell cX9_tell 5 none :: wsL_law) ({ frames := 3, cells := 0, slots := 0, locals := 65 })).room s m args below meth c H locs 0 0 (MQ below (va_Qv (fun (_ : Unit) => True) (fun _ t => ∃ otl : Int32, ∃ otf : Nat → Int32, (0 ≤ (otl : Int32).toInt ∧ (otl : Int32).toInt ≤ 700) ∧ (TXS tlf otf 0 (otl : Int32).toInt (TXT (absC n_nodes n_fkind n_fpay n_fname n_fways n_fheld n_ftargets n_fweights))) ∧ va_P D vwCl [(wO9 tl tl_bytes otl), (wI g tl_bytes 0 700 otf), (wO2 n n_nodes n_kind n_pay n_name n_ways n_held n_targets n_weights), (wI g n_kind 0 12 n_fkind), (wI g n_pay 0 12 n_fpay), (wI g n_name 0 12 n_fname), (wI g n_ways 0 12 n_fways), (wI g n_held 0 12 n_fheld), (wI g n_targets 0 36 n_ftargets), (wI g n_weights 0 36 n_fweights), (wO4 rd tp d rd_kindWords ww fk fp nx tk tpl tv), (wI g rd_kindWords 0 4 kwf)] t.heap ∧ va_D A [(wO9 tl tl_bytes otl), (wI g tl_bytes 0 700 otf), (wO2 n n_nodes n_kind n_pay n_name n_ways n_held n_targets n_weights), (wI g n_kind 0 12 n_fkind), (wI g n_pay 0 12 n_fpay), (wI g n_name 0 12 n_fname), (wI g n_ways 0 12 n_fways), (wI g n_held 0 12 n_fheld), (wI g n_targets 0 36 n_ftargets), (wI g n_weights 0 36 n_fweights), (wO4 rd tp d rd_kindWords ww fk fp nx tk tpl tv), (wI g rd_kindWords 0 4 kwf)]) A) args s 0 0 A) (F0 m 7 ls []) := by
    intro n_95373
    induction n_95373 with
    | zero =>
      intro x_95370 x_95371 f_95372 H locs ls h_x_95370 h_x_95371 hr95373_0 hr95373_1 hm_95373 hP hD hS hl
      exfalso; omega
    | succ n_95373 ih_95373 =>
      intro x_95370 x_95371 f_95372 H locs ls h_x_95370 h_x_95371 hr95373_0 hr95373_1 hm_95373 hP hD hS hl
      refine lv_iload_n hx hb dX9_tell_7 rfl (lv_at hl 0 rfl) ?_
      refine lv_aload_n hx hb dX9_tell_8 rfl (lv_at hl 2 rfl) ?_
      refine va_get (D := D) (ci := 2) (v := .int n_nodes) (C := RX2) (T := TX2) (N := 8) hx hb hts inlX2 hown hK hP 2 rfl rfl 0 (by decide) (hts (Cond.fieldLink RX9 19 "ChanceRings$Net" "nodes" "I") qw_823) (fun _ h9 => h9) rfl dX9_tell_9 ?_
      refine lv_icmp_ge (tgt := 71) hx hb dX9_tell_12 (by decide) (fun c_95374 => ?_) (fun c_95374 => ?_)
      · skip
        have c_95374_i := Int32.le_iff_toInt_le.mp c_95374
        refine lv_iconst (v := 0) hx hb dX9_tell_71 (by decide) ?_
        refine lv_istore_n (lv' := [(3, .int 0), (0, .ref tl), (1, .ref n), (2, .ref rd)]) hx hb dX9_tell_72 rfl hl (by decide) rfl (fun ls hl => ?_)
        have lp_95695 : ∀ (n_95695 : Nat) (x_95692 : Int32) (x_95693 : Int32) (f_95694 : Nat → Int32) (H : Heap) (locs : List Loc) (ls : Array Slot), (0 ≤ (x_95692 : Int32).toInt ∧ (x_95692 : Int32).toInt ≤ 12) → (0 ≤ (x_95693 : Int32).toInt ∧ (x_95693 : Int32).toInt ≤ 700) → (x_95692.toInt ≤ (n_nodes : Int32).toInt) → (TXS tlf f_95694 0 x_95693.toInt (TXN (absC n_nodes n_fkind n_fpay n_fname n_fways n_fheld n_ftargets n_fweights) (n_nodes : Int32).toInt.toNat ++ TXV (absC n_nodes n_fkind n_fpay n_fname n_fways n_fheld n_ftargets n_fweights) x_95692.toInt.toNat)) → (12 - x_95692.toInt < (n_95695 : Int)) → va_P D vwCl [(wO9 tl tl_bytes x_95693), (wI g tl_bytes 0 700 f_95694), (wO2 n n_nodes n_kind n_pay n_name n_ways n_held n_targets n_weights), (wI g n_kind 0 12 n_fkind), (wI g n_pay 0 12 n_fpay), (wI g n_name 0 12 n_fname), (wI g n_ways 0 12 n_fways), (wI g n_held 0 12 n_fheld), (wI g n_targets 0 36 n_ftargets), (wI g n_weights 0 36 n_fweights), (wO4 rd tp d rd_kindWords ww fk fp nx tk tpl tv), (wI g rd_kindWords 0 4 kwf)] H → va_D A [(wO9 tl tl_bytes x_95693), (wI g tl_bytes 0 700 f_95694), (wO2 n n_nodes n_kind n_pay n_name n_ways n_held n_targets n_weights), (wI g n_kind 0 12 n_fkind), (wI g n_pay 0 12 n_fpay), (wI g n_name 0 12 n_fname), (wI g n_ways 0 12 n_fways), (wI g n_held 0 12 n_fheld), (wI g n_targets 0 36 n_ftargets), (wI g n_weights 0 36 n_fweights), (wO4 rd tp d rd_kindWords ww fk fp nx tk tpl tv), (wI g rd_kindWords 0 4 kwf)] → va_S A s.heap H locs → lv_has ls 5 [(3, .int x_95692), (0, .ref tl), (1, .ref n), (2, .ref rd)] → W p l e (headSpec (.code yX9_tell cX9_tell 5 none :: wsL_law) ({ frames := 3, cells := 0, slots := 0, locals := 65 })).room s m args below meth c H locs 0 0 (MQ below (va_Qv (fun (_ : Unit) => True) (fun _ t => ∃ otl : Int32, ∃ otf : Nat → Int32, (0 ≤ (otl : Int32).toInt ∧ (otl : Int32).toInt ≤ 700) ∧ (TXS tlf otf 0 (otl : Int32).toInt (TXT (absC n_nodes n_fkind n_fpay n_fname n_fways n_fheld n_ftargets n_fweights))) ∧ va_P D vwCl [(wO9 tl tl_bytes otl), (wI g tl_bytes 0 700 otf), (wO2 n n_nodes n_kind n_pay n_name n_ways n_held n_targets n_weights), (wI g n_kind 0 12 n_fkind), (wI g n_pay 0 12 n_fpay), (wI g n_name 0 12 n_fname), (wI g n_ways 0 12 n_fways), (wI g n_held 0 12 n_fheld), (wI g n_targets 0 36 n_ftargets), (wI g n_weights 0 36 n_fweights), (wO4 rd tp d rd_kindWords ww fk fp nx tk tpl tv), (wI g rd_kindWords 0 4 kwf)] t.heap ∧ va_D A [(wO9 tl tl_bytes otl), (wI g tl_bytes 0 700 otf), (wO2 n n_nodes n_kind n_pay n_name n_ways n_held n_targets n_weights), (wI g n_kind 0 12 n_fkind), (wI g n_pay 0 12 n_fpay), (wI g n_name 0 12 n_fname), (wI g n_ways 0 12 n_fways), (wI g n_held 0 12 n_fheld), (wI g n_targets 0 36 n_ftargets), (wI g n_weights 0 36 n_fweights), (wO4 rd tp d rd_kindWords ww fk fp nx tk tpl tv), (wI g rd_kindWords 0 4 kwf)]) A) args s 0 0 A) (F0 m 73 ls []) := by
          intro n_95695
          induction n_95695 with
          | zero =>
            intro x_95692 x_95693 f_95694 H locs ls h_x_95692 h_x_95693 hr95695_0 hr95695_1 hm_95695 hP hD hS hl
            exfalso; omega
          | succ n_95695 ih_95695 =>
            intro x_95692 x_95693 f_95694 H locs ls h_x_95692 h_x_95693 hr95695_0 hr95695_1 hm_95695 hP hD hS hl
            refine lv_iload_n hx hb dX9_tell_73 rfl (lv_at hl 0 rfl) ?_
            refine lv_aload_n hx hb dX9_tell_74 rfl (lv_at hl 2 rfl) ?_
            refine va_get (D := D) (ci := 2) (v := .int n_nodes) (C := RX2) (T := TX2) (N := 8) hx hb hts inlX2 hown hK hP 2 rfl rfl 0 (by decide) (hts (Cond.fieldLink RX9 19 "ChanceRings$Net" "nodes" "I") qw_823) (fun _ h9 => h9) rfl dX9_tell_75 ?_
            refine lv_icmp_ge (tgt := 168) hx hb dX9_tell_78 (by decide) (fun c_95696 => ?_) (fun c_95696 => ?_)
            · skip
              have c_95696_i := Int32.le_iff_toInt_le.mp c_95696
              have hP9 := hP.sub (ws' := [(wO9 tl tl_bytes x_95693), (wI g tl_bytes 0 700 f_95694), (wO2 n n_nodes n_kind n_pay n_name n_ways n_held n_targets n_weights), (wI g n_kind 0 12 n_fkind), (wI g n_pay 0 12 n_fpay), (wI g n_name 0 12 n_fname), (wI g n_ways 0 12 n_fways), (wI g n_held 0 12 n_fheld), (wI g n_targets 0 36 n_ftargets), (wI g n_weights 0 36 n_fweights), (wO4 rd tp d rd_kindWords ww fk fp nx tk tpl tv), (wI g rd_kindWords 0 4 kwf)]) [0, 1, 2, 3, 4, 5, 6, 7, 8, 9, 10, 11] rfl
              have hD9 := hD.sub (ws' := [(wO9 tl tl_bytes x_95693), (wI g tl_bytes 0 700 f_95694), (wO2 n n_nodes n_kind n_pay n_name n_ways n_held n_targets n_weights), (wI g n_kind 0 12 n_fkind), (wI g n_pay 0 12 n_fpay), (wI g n_name 0 12 n_fname), (wI g n_ways 0 12 n_fways), (wI g n_held 0 12 n_fheld), (wI g n_targets 0 36 n_ftargets), (wI g n_weights 0 36 n_fweights), (wO4 rd tp d rd_kindWords ww fk fp nx tk tpl tv), (wI g rd_kindWords 0 4 kwf)]) [0, 1, 2, 3, 4, 5, 6, 7, 8, 9, 10, 11] (by decide) rfl
              exact W.vret hx hb hr (fun t ht hW => ⟨⟨(), rfl, trivial, x_95693, f_95694, (tr_w h_x_95693 (by decide) (by decide)), (txs_of (N := (n_nodes : Int32).toInt.toNat) ((by (first | (clear h_tll h_fk h_fp h_nx h_tk h_tpl hww h_x_95371; omega) | omega) : x_95692.toInt.toNat = (n_nodes : Int32).toInt.toNat) ▸ hr95695_1) rfl), by rw [ht]; exact hP9, hD9⟩, hS.F ht⟩) hS.2.2 dX9_tell_168
            · skip
              have c_95696_i := Int32.lt_iff_toInt_lt.mp (Int32.not_le.mp c_95696)
              have h_95697 : 0 ≤ (x_95692 : Int32).toInt ∧ (x_95692 : Int32).toInt ≤ 11 := nr_lt_l h_x_95692 h_n_nodes c_95696_i (by decide) (by decide)
              have h_95698 : 1 ≤ (n_nodes : Int32).toInt ∧ (n_nodes : Int32).toInt ≤ 12 := nr_lt_r h_x_95692 h_n_nodes c_95696_i (by decide) (by decide)
              refine lv_iconst (v := 0) hx hb dX9_tell_81 (by decide) ?_
              refine lv_istore (lv' := [(4, .int 0), (3, .int x_95692), (0, .ref tl), (1, .ref n), (2, .ref rd)]) hx hb dX9_tell_82 hl (by decide) rfl (fun ls hl => ?_)
              have lp_95803 : ∀ (n_95803 : Nat) (x_95800 : Int32) (x_95801 : Int32) (f_95802 : Nat → Int32) (H : Heap) (locs : List Loc) (ls : Array Slot), (0 ≤ (x_95800 : Int32).toInt ∧ (x_95800 : Int32).toInt ≤ 3) → (0 ≤ (x_95801 : Int32).toInt ∧ (x_95801 : Int32).toInt ≤ 700) → (x_95800.toInt ≤ (n_fways x_95692.toInt.toNat).toInt) → (TXS tlf f_95802 0 x_95801.toInt ((TXN (absC n_nodes n_fkind n_fpay n_fname n_fways n_fheld n_ftargets n_fweights) (n_nodes : Int32).toInt.toNat ++ TXV (absC n_nodes n_fkind n_fpay n_fname n_fways n_fheld n_ftargets n_fweights) x_95692.toInt.toNat) ++ TXW (absC n_nodes n_fkind n_fpay n_fname n_fways n_fheld n_ftargets n_fweights) x_95692.toInt.toNat x_95800.toInt.toNat)) → (3 - x_95800.toInt < (n_95803 : Int)) → va_P D vwCl [(wO9 tl tl_bytes x_95801), (wI g tl_bytes 0 700 f_95802), (wO2 n n_nodes n_kind n_pay n_name n_ways n_held n_targets n_weights), (wI g n_kind 0 12 n_fkind), (wI g n_pay 0 12 n_fpay), (wI g n_name 0 12 n_fname), (wI g n_ways 0 12 n_fways), (wI g n_held 0 12 n_fheld), (wI g n_targets 0 36 n_ftargets), (wI g n_weights 0 36 n_fweights), (wO4 rd tp d rd_kindWords ww fk fp nx tk tpl tv), (wI g rd_kindWords 0 4 kwf)] H → va_D A [(wO9 tl tl_bytes x_95801), (wI g tl_bytes 0 700 f_95802), (wO2 n n_nodes n_kind n_pay n_name n_ways n_held n_targets n_weights), (wI g n_kind 0 12 n_fkind), (wI g n_pay 0 12 n_fpay), (wI g n_name 0 12 n_fname), (wI g n_ways 0 12 n_fways), (wI g n_held 0 12 n_fheld), (wI g n_targets 0 36 n_ftargets), (wI g n_weights 0 36 n_fweights), (wO4 rd tp d rd_kindWords ww fk fp nx tk tpl tv), (wI g rd_kindWords 0 4 kwf)] → va_S A s.heap H locs → lv_has ls 5 [(4, .int x_95800), (3, .int x_95692), (0, .ref tl), (1, .ref n), (2, .ref rd)] → W p l e (headSpec (.code yX9_tell cX9_tell 5 none :: wsL_law) ({ frames := 3, cells := 0, slots := 0, locals := 65 })).room s m args below meth c H locs 0 0 (MQ below (va_Qv (fun (_ : Unit) => True) (fun _ t => ∃ otl : Int32, ∃ otf : Nat → Int32, (0 ≤ (otl : Int32).toInt ∧ (otl : Int32).toInt ≤ 700) ∧ (TXS tlf otf 0 (otl : Int32).toInt (TXT (absC n_nodes n_fkind n_fpay n_fname n_fways n_fheld n_ftargets n_fweights))) ∧ va_P D vwCl [(wO9 tl tl_bytes otl), (wI g tl_bytes 0 700 otf), (wO2 n n_nodes n_kind n_pay n_name n_ways n_held n_targets n_weights), (wI g n_kind 0 12 n_fkind), (wI g n_pay 0 12 n_fpay), (wI g n_name 0 12 n_fname), (wI g n_ways 0 12 n_fways), (wI g n_held 0 12 n_fheld), (wI g n_targets 0 36 n_ftargets), (wI g n_weights 0 36 n_fweights), (wO4 rd tp d rd_kindWords ww fk fp nx tk tpl tv), (wI g rd_kindWords 0 4 kwf)] t.heap ∧ va_D A [(wO9 tl tl_bytes otl), (wI g tl_bytes 0 700 otf), (wO2 n n_nodes n_kind n_pay n_name n_ways n_held n_targets n_weights), (wI g n_kind 0 12 n_fkind), (wI g n_pay 0 12 n_fpay), (wI g n_name 0 12 n_fname), (wI g n_ways 0 12 n_fways), (wI g n_held 0 12 n_fheld), (wI g n_targets 0 36 n_ftargets), (wI g n_weights 0 36 n_fweights), (wO4 rd tp d rd_kindWords ww fk fp nx tk tpl tv), (wI g rd_kindWords 0 4 kwf)]) A) args s 0 0 A) (F0 m 84 ls []) := by
                intro n_95803
                induction n_95803 with
                | zero =>
                  intro x_95800 x_95801 f_95802 H locs ls h_x_95800 h_x_95801 hr95803_0 hr95803_1 hm_95803 hP hD hS hl
                  exfalso; omega
                | succ n_95803 ih_95803 =>
                  intro x_95800 x_95801 f_95802 H locs ls h_x_95800 h_x_95801 hr95803_0 hr95803_1 hm_95803 hP hD hS hl
                  refine lv_iload hx hb dX9_tell_84 (lv_at hl 0 rfl) ?_
                  refine lv_aload_n hx hb dX9_tell_86 rfl (lv_at hl 3 rfl) ?_
                  refine va_get (D := D) (ci := 2) (v := .ref n_ways) (C := RX2) (T := TX2) (N := 8) hx hb hts inlX2 hown hK hP 2 rfl rfl 4 (by decide) (hts (Cond.fieldLink RX9 51 "ChanceRings$Net" "ways" "[I") qw_824) (fun _ h9 => h9) rfl dX9_tell_87 ?_
                  refine lv_iload_n hx hb dX9_tell_90 rfl (lv_at hl 1 rfl) ?_
                  refine va_iald hx hb hK hP 6 0 rfl rfl (tr_in h_95697 (by decide) (by decide)) dX9_tell_91 ?_
                  refine lv_topi (fun v_95804 v_95804_e => ?_)
                  have h_v_95804 : 0 ≤ (v_95804 : Int32).toInt ∧ (v_95804 : Int32).toInt ≤ 3 := by rw [v_95804_e]; exact h_n_fways _
                  have g_v_95804 : v_95804 = n_fways (x_95692.toInt.toNat) := v_95804_e.trans (congrArg n_fways rfl)
                  have gi_v_95804 := congrArg Int32.toInt g_v_95804
                  refine lv_icmp_ge (tgt := 162) hx hb dX9_tell_92 (by decide) (fun c_95805 => ?_) (fun c_95805 => ?_)
                  · skip
                    have c_95805_i := Int32.le_iff_toInt_le.mp c_95805
                    obtain ⟨v_95808, v_95808_e⟩ : ∃ y : Int32, y = x_95692 + Int32.ofInt 1 := ⟨_, rfl⟩
                    have h_v_95808 : 1 ≤ (v_95808 : Int32).toInt ∧ (v_95808 : Int32).toInt ≤ 12 := by rw [v_95808_e]; exact tr_add h_95697 (⟨by decide, by decide⟩ : 1 ≤ (Int32.ofInt 1 : Int32).toInt ∧ (Int32.ofInt 1 : Int32).toInt ≤ 1) (by decide) (by decide) (by decide) (by decide)
                    have q_v_95808 : v_95808.toInt = x_95692.toInt + 1 := by rw [v_95808_e]; exact tr_addE h_95697 (⟨by decide, by decide⟩ : 1 ≤ (Int32.ofInt 1 : Int32).toInt ∧ (Int32.ofInt 1 : Int32).toInt ≤ 1) (by decide) (by decide)
                    refine lv_iinc (v := v_95808) (lv' := [(3, .int v_95808), (4, .int x_95800), (0, .ref tl), (1, .ref n), (2, .ref rd)]) hx hb dX9_tell_162 hl (k := 1) rfl v_95808_e.symm (by decide) rfl (fun ls hl => ?_)
                    refine lv_goto (tgt := 73) hx hb dX9_tell_165 (by decide) ?_
                    exact ih_95695 v_95808 x_95801 f_95802 H _ ls (tr_w h_v_95808 (by decide) (by decide)) (tr_w h_x_95801 (by decide) (by decide)) (by have z_0 := tk_0; (first | (clear h_tll h_fk h_fp h_nx h_tk h_tpl hww h_x_95370 h_x_95371 h_x_95693; omega) | omega)) (TXS.waysN hr95803_1 (by rw [absC_w (by (first | (clear h_tll h_fk h_fp h_nx h_tk h_tpl hww h_x_95370 h_x_95371 h_x_95693; omega) | omega))]; have q8 := gi_v_95804; (first | (clear h_tll h_fk h_fp h_nx h_tk h_tpl hww h_x_95370 h_x_95371 h_x_95693; omega) | omega)) (by (first | (clear h_tll h_fk h_fp h_nx h_tk h_tpl hww h_x_95370 h_x_95371 h_x_95693; omega) | omega))) (by (first | (clear h_tll h_fk h_fp h_nx h_tk h_tpl hww h_x_95370 h_x_95371 h_x_95693; omega) | omega)) (hP.sub [0, 1, 2, 3, 4, 5, 6, 7, 8, 9, 10, 11] rfl) (hD.sub [0, 1, 2, 3, 4, 5, 6, 7, 8, 9, 10, 11] (by decide) rfl) hS (lv_sub hl [0, 2, 3, 4] rfl)
                  · skip
                    have c_95805_i := Int32.lt_iff_toInt_lt.mp (Int32.not_le.mp c_95805)
                    have h_95806 : 0 ≤ (x_95800 : Int32).toInt ∧ (x_95800 : Int32).toInt ≤ 2 := nr_lt_l h_x_95800 h_v_95804 c_95805_i (by decide) (by decide)
                    have h_95807 : 1 ≤ (v_95804 : Int32).toInt ∧ (v_95804 : Int32).toInt ≤ 3 := nr_lt_r h_x_95800 h_v_95804 c_95805_i (by decide) (by decide)
                    refine lv_aload_n hx hb dX9_tell_95 rfl (lv_at hl 2 rfl) ?_
                    refine lv_aload_n hx hb dX9_tell_96 rfl (lv_at hl 4 rfl) ?_
                    refine va_get (D := D) (ci := 4) (v := .int ww) (C := RX4) (T := TX4) (N := 10) hx hb hts inlX4 hown hK hP 10 rfl rfl 3 (by decide) (hts (Cond.fieldLink RX9 54 "ChanceRings$Reader" "wayWord" "I") qw_825) (fun _ h9 => h9) rfl dX9_tell_97 ?_
                    have hPc := hP.sub (ws' := [(wO9 tl tl_bytes x_95801), (wI g tl_bytes 0 700 f_95802)]) [0, 1] rfl
                    have hDc := hD.sub (ws' := [(wO9 tl tl_bytes x_95801), (wI g tl_bytes 0 700 f_95802)]) [0, 1] (by decide) rfl
                    have hFc := va_free (wc := [(wO9 tl tl_bytes x_95801), (wI g tl_bytes 0 700 f_95802)]) hD hS hA [0, 1] rfl
                    refine va_callv (va_runV (As := [.int ww]) (rest := []) ⟨hx, hb, hml, hown, hts⟩ (c_X9_putWordT l D g H.size tl ww tl_bytes x_95801 f_95802 (tr_w h_x_95801 (by decide) (by decide)) (by (first | (clear h_tll h_n_nodes h_fk h_fp h_nx h_tk h_tpl h_x_95370 h_x_95371 c_95374_i h_x_95692 h_x_95693 c_95696_i h_95697 h_95698 h_x_95800 h_v_95804 g_v_95804 gi_v_95804 c_95805_i h_95806 h_95807; omega) | omega))) (cwV 1 hts (tz_gV qw_354 qw_355 qw_356 qw_351 qw_357) rfl rfl rfl (by decide +kernel) ⟨Nat.le_of_ble_eq_true rfl, Nat.le_of_ble_eq_true rfl⟩) ⟨tz_blQ, va_recv hK hPc (ci := 9) (q0 := 0) rfl rfl, tz_preQ hPc hK hDc⟩ rfl rfl hl.1 rfl (lv_room (Nat.le_of_ble_eq_true rfl)) dX9_tell_100 ⟨Nat.le_of_ble_eq_true rfl, Nat.le_of_ble_eq_true rfl⟩) hS (fun q _ h => hFc q h) hFc (fun u t H1 locs ht hvm hw hB hz1 hk1 hS => ?_)
                    obtain ⟨otl_95810, otf_95811, hf_95812, hf_95813, hP1, hD1⟩ := hB
                    rw [ht] at hP1
                    obtain ⟨hP, hD⟩ := va_join (wr := [(wO2 n n_nodes n_kind n_pay n_name n_ways n_held n_targets n_weights), (wI g n_kind 0 12 n_fkind), (wI g n_pay 0 12 n_fpay), (wI g n_name 0 12 n_fname), (wI g n_ways 0 12 n_fways), (wI g n_held 0 12 n_fheld), (wI g n_targets 0 36 n_ftargets), (wI g n_weights 0 36 n_fweights), (wO4 rd tp d rd_kindWords ww fk fp nx tk tpl tv), (wI g rd_kindWords 0 4 kwf)]) (w1 := [(wO9 tl tl_bytes otl_95810), (wI g tl_bytes 0 700 otf_95811)]) hP hD [0, 1] [2, 3, 4, 5, 6, 7, 8, 9, 10, 11] rfl rfl (by decide) (by decide) hk1 hFc hP1 hD1
                    generalize H1 = H at hP hS ⊢
                    have hP : va_P D vwCl [(wO2 n n_nodes n_kind n_pay n_name n_ways n_held n_targets n_weights), (wI g n_kind 0 12 n_fkind), (wI g n_pay 0 12 n_fpay), (wI g n_name 0 12 n_fname), (wI g n_ways 0 12 n_fways), (wI g n_held 0 12 n_fheld), (wI g n_targets 0 36 n_ftargets), (wI g n_weights 0 36 n_fweights), (wO4 rd tp d rd_kindWords ww fk fp nx tk tpl tv), (wI g rd_kindWords 0 4 kwf), (wO9 tl tl_bytes otl_95810), (wI g tl_bytes 0 700 otf_95811)] H := hP
                    have hD : va_D A [(wO2 n n_nodes n_kind n_pay n_name n_ways n_held n_targets n_weights), (wI g n_kind 0 12 n_fkind), (wI g n_pay 0 12 n_fpay), (wI g n_name 0 12 n_fname), (wI g n_ways 0 12 n_fways), (wI g n_held 0 12 n_fheld), (wI g n_targets 0 36 n_ftargets), (wI g n_weights 0 36 n_fweights), (wO4 rd tp d rd_kindWords ww fk fp nx tk tpl tv), (wI g rd_kindWords 0 4 kwf), (wO9 tl tl_bytes otl_95810), (wI g tl_bytes 0 700 otf_95811)] := hD
                    refine lv_aload_n hx hb dX9_tell_103 rfl (lv_at hl 2 rfl) ?_
                    refine lv_aload_n hx hb dX9_tell_104 rfl (lv_at hl 3 rfl) ?_
                    refine va_get (D := D) (ci := 2) (v := .ref n_name) (C := RX2) (T := TX2) (N := 8) hx hb hts inlX2 hown hK hP 0 rfl rfl 3 (by decide) (hts (Cond.fieldLink RX9 36 "ChanceRings$Net" "name" "[I") qw_826) (fun _ h9 => h9) rfl dX9_tell_105 ?_
                    refine lv_iload_n hx hb dX9_tell_108 rfl (lv_at hl 1 rfl) ?_
                    refine va_iald hx hb hK hP 3 0 rfl rfl (tr_in h_95697 (by decide) (by decide)) dX9_tell_109 ?_
                    refine lv_topi (fun v_95814 v_95814_e => ?_)
                    have g_v_95814 : v_95814 = n_fname (x_95692.toInt.toNat) := v_95814_e.trans (congrArg n_fname rfl)
                    have gi_v_95814 := congrArg Int32.toInt g_v_95814
                    have hPc := hP.sub (ws' := [(wO9 tl tl_bytes otl_95810), (wI g tl_bytes 0 700 otf_95811)]) [10, 11] rfl
                    have hDc := hD.sub (ws' := [(wO9 tl tl_bytes otl_95810), (wI g tl_bytes 0 700 otf_95811)]) [10, 11] (by decide) rfl
                    have hFc := va_free (wc := [(wO9 tl tl_bytes otl_95810), (wI g tl_bytes 0 700 otf_95811)]) hD hS hA [10, 11] rfl
                    refine va_callv (va_runV (As := [.int v_95814]) (rest := []) ⟨hx, hb, hml, hown, hts⟩ (c_X9_putSpacedT l D g H.size tl v_95814 tl_bytes otl_95810 otf_95811 (tr_w hf_95812 (by decide) (by decide)) (by rw [gi_v_95814]; exact (hnx _ (by (first | (clear h_tll h_fk h_fp h_nx h_tk h_tpl hww h_x_95370 h_x_95371 h_x_95693 h_x_95801; omega) | omega))).1)) (cwV 1 hts (tz_gV qw_827 qw_828 qw_829 qw_351 qw_830) rfl rfl rfl (by decide +kernel) ⟨Nat.le_of_ble_eq_true rfl, Nat.le_of_ble_eq_true rfl⟩) ⟨tz_blQ, va_recv hK hPc (ci := 9) (q0 := 0) rfl rfl, tz_preQ hPc hK hDc⟩ rfl rfl hl.1 rfl (lv_room (Nat.le_of_ble_eq_true rfl)) dX9_tell_110 ⟨Nat.le_of_ble_eq_true rfl, Nat.le_of_ble_eq_true rfl⟩) hS (fun q _ h => hFc q h) hFc (fun u t H1 locs ht hvm hw hB hz1 hk1 hS => ?_)
                    obtain ⟨otl_95816, otf_95817, hf_95818, hf_95819, hP1, hD1⟩ := hB
                    rw [ht] at hP1
                    obtain ⟨hP, hD⟩ := va_join (wr := [(wO2 n n_nodes n_kind n_pay n_name n_ways n_held n_targets n_weights), (wI g n_kind 0 12 n_fkind), (wI g n_pay 0 12 n_fpay), (wI g n_name 0 12 n_fname), (wI g n_ways 0 12 n_fways), (wI g n_held 0 12 n_fheld), (wI g n_targets 0 36 n_ftargets), (wI g n_weights 0 36 n_fweights), (wO4 rd tp d rd_kindWords ww fk fp nx tk tpl tv), (wI g rd_kindWords 0 4 kwf)]) (w1 := [(wO9 tl tl_bytes otl_95816), (wI g tl_bytes 0 700 otf_95817)]) hP hD [10, 11] [0, 1, 2, 3, 4, 5, 6, 7, 8, 9] rfl rfl (by decide) (by decide) hk1 hFc hP1 hD1
                    generalize H1 = H at hP hS ⊢
                    have hP : va_P D vwCl [(wO2 n n_nodes n_kind n_pay n_name n_ways n_held n_targets n_weights), (wI g n_kind 0 12 n_fkind), (wI g n_pay 0 12 n_fpay), (wI g n_name 0 12 n_fname), (wI g n_ways 0 12 n_fways), (wI g n_held 0 12 n_fheld), (wI g n_targets 0 36 n_ftargets), (wI g n_weights 0 36 n_fweights), (wO4 rd tp d rd_kindWords ww fk fp nx tk tpl tv), (wI g rd_kindWords 0 4 kwf), (wO9 tl tl_bytes otl_95816), (wI g tl_bytes 0 700 otf_95817)] H := hP
                    have hD : va_D A [(wO2 n n_nodes n_kind n_pay n_name n_ways n_held n_targets n_weights), (wI g n_kind 0 12 n_fkind), (wI g n_pay 0 12 n_fpay), (wI g n_name 0 12 n_fname), (wI g n_ways 0 12 n_fways), (wI g n_held 0 12 n_fheld), (wI g n_targets 0 36 n_ftargets), (wI g n_weights 0 36 n_fweights), (wO4 rd tp d rd_kindWords ww fk fp nx tk tpl tv), (wI g rd_kindWords 0 4 kwf), (wO9 tl tl_bytes otl_95816), (wI g tl_bytes 0 700 otf_95817)] := hD
                    refine lv_aload_n hx hb dX9_tell_113 rfl (lv_at hl 2 rfl) ?_
                    refine lv_aload_n hx hb dX9_tell_114 rfl (lv_at hl 3 rfl) ?_
                    refine va_get (D := D) (ci := 2) (v := .ref n_name) (C := RX2) (T := TX2) (N := 8) hx hb hts inlX2 hown hK hP 0 rfl rfl 3 (by decide) (hts (Cond.fieldLink RX9 36 "ChanceRings$Net" "name" "[I") qw_826) (fun _ h9 => h9) rfl dX9_tell_115 ?_
                    refine lv_aload_n hx hb dX9_tell_118 rfl (lv_at hl 3 rfl) ?_
                    refine lv_iload_n hx hb dX9_tell_119 rfl (lv_at hl 1 rfl) ?_
                    refine lv_iload hx hb dX9_tell_120 (lv_at hl 0 rfl) ?_
                    have hPc := hP.sub (ws' := [(wO2 n n_nodes n_kind n_pay n_name n_ways n_held n_targets n_weights), (wI g n_targets 0 36 n_ftargets)]) [0, 6] rfl
                    refine vp_callSi (va_Run.run (va_runV (As := [.int x_95692, .int x_95800]) (rest := [.ref n_name, .ref tl]) ⟨hx, hb, hml, hown, hts⟩ (c_X2_targetN l D g n x_95692 x_95800 n_nodes n_kind n_pay n_name n_ways n_held n_targets n_weights n_ftargets (tr_w h_95697 (by decide) (by decide)) (tr_w h_95806 (by decide) (by decide)) (tr_w h_95698 (by decide) (by decide)) (tr_wa h_n_ftargets (by decide) (by decide))) (cwV 2 hts (tz_gV qw_831 qw_325 qw_326 qw_322 qw_327) rfl rfl rfl (by decide +kernel) ⟨Nat.le_of_ble_eq_true rfl, Nat.le_of_ble_eq_true rfl⟩) ⟨tz_blS, va_recv hK hPc (ci := 2) (q0 := 0) rfl rfl, tz_preS hPc hK⟩ rfl rfl hl.1 rfl (lv_room (Nat.le_of_ble_eq_true rfl)) dX9_tell_122 ⟨Nat.le_of_ble_eq_true rfl, Nat.le_of_ble_eq_true rfl⟩)) (fun r_95820 hw => ?_)
                    have hw_95821 : 0 ≤ (r_95820 : Int32).toInt ∧ (r_95820 : Int32).toInt ≤ 11 := hw.1
                    have hw_95821_p0 : (r_95820 : Int32).toInt = (n_ftargets (3 * (x_95692 : Int32).toInt.toNat + (x_95800 : Int32).toInt.toNat)).toInt := hw.2
                    have nx_9 := (hnx x_95692.toInt.toNat (by (first | (clear h_tll h_fk h_fp h_nx h_tk h_tpl hww h_x_95371 h_x_95693 h_x_95801; omega) | omega))).2.2 x_95800.toInt.toNat (by (first | (clear h_tll h_fk h_fp h_nx h_tk h_tpl hww h_x_95371 h_x_95693 h_x_95801; omega) | omega)) (by have q8 := gi_v_95804; (first | (clear h_tll h_fk h_fp h_nx h_tk h_tpl hww h_x_95371 h_x_95693 h_x_95801; omega) | omega))
                    have nq_9 : 0 ≤ r_95820.toInt ∧ r_95820.toInt < n_nodes.toInt := by rw [hw_95821_p0]; exact nx_9.1
                    refine va_iald hx hb hK hP 3 0 rfl rfl (tr_in hw_95821 (by decide) (by decide)) dX9_tell_125 ?_
                    refine lv_topi (fun v_95822 v_95822_e => ?_)
                    have g_v_95822 : v_95822 = n_fname (r_95820.toInt.toNat) := v_95822_e.trans (congrArg n_fname rfl)
                    have gi_v_95822 := congrArg Int32.toInt g_v_95822
                    have hPc := hP.sub (ws' := [(wO9 tl tl_bytes otl_95816), (wI g tl_bytes 0 700 otf_95817)]) [10, 11] rfl
                    have hDc := hD.sub (ws' := [(wO9 tl tl_bytes otl_95816), (wI g tl_bytes 0 700 otf_95817)]) [10, 11] (by decide) rfl
                    have hFc := va_free (wc := [(wO9 tl tl_bytes otl_95816), (wI g tl_bytes 0 700 otf_95817)]) hD hS hA [10, 11] rfl
                    refine va_callv (va_runV (As := [.int v_95822]) (rest := []) ⟨hx, hb, hml, hown, hts⟩ (c_X9_putSpacedT l D g H.size tl v_95822 tl_bytes otl_95816 otf_95817 (tr_w hf_95818 (by decide) (by decide)) (by rw [gi_v_95822]; exact (hnx _ (by (first | (clear h_tll h_n_nodes h_fk h_fp h_nx h_tk h_tpl hww h_x_95370 h_x_95371 c_95374_i h_x_95693 h_95698 h_x_95801 h_v_95804 gi_v_95804 h_95807; omega) | omega))).1)) (cwV 1 hts (tz_gV qw_827 qw_828 qw_829 qw_351 qw_830) rfl rfl rfl (by decide +kernel) ⟨Nat.le_of_ble_eq_true rfl, Nat.le_of_ble_eq_true rfl⟩) ⟨tz_blQ, va_recv hK hPc (ci := 9) (q0 := 0) rfl rfl, tz_preQ hPc hK hDc⟩ rfl rfl hl.1 rfl (lv_room (Nat.le_of_ble_eq_true rfl)) dX9_tell_126 ⟨Nat.le_of_ble_eq_true rfl, Nat.le_of_ble_eq_true rfl⟩) hS (fun q _ h => hFc q h) hFc (fun u t H1 locs ht hvm hw hB hz1 hk1 hS => ?_)
                    obtain ⟨otl_95824, otf_95825, hf_95826, hf_95827, hP1, hD1⟩ := hB
                    rw [ht] at hP1
                    obtain ⟨hP, hD⟩ := va_join (wr := [(wO2 n n_nodes n_kind n_pay n_name n_ways n_held n_targets n_weights), (wI g n_kind 0 12 n_fkind), (wI g n_pay 0 12 n_fpay), (wI g n_name 0 12 n_fname), (wI g n_ways 0 12 n_fways), (wI g n_held 0 12 n_fheld), (wI g n_targets 0 36 n_ftargets), (wI g n_weights 0 36 n_fweights), (wO4 rd tp d rd_kindWords ww fk fp nx tk tpl tv), (wI g rd_kindWords 0 4 kwf)]) (w1 := [(wO9 tl tl_bytes otl_95824), (wI g tl_bytes 0 700 otf_95825)]) hP hD [10, 11] [0, 1, 2, 3, 4, 5, 6, 7, 8, 9] rfl rfl (by decide) (by decide) hk1 hFc hP1 hD1
                    generalize H1 = H at hP hS ⊢
                    have hP : va_P D vwCl [(wO2 n n_nodes n_kind n_pay n_name n_ways n_held n_targets n_weights), (wI g n_kind 0 12 n_fkind), (wI g n_pay 0 12 n_fpay), (wI g n_name 0 12 n_fname), (wI g n_ways 0 12 n_fways), (wI g n_held 0 12 n_fheld), (wI g n_targets 0 36 n_ftargets), (wI g n_weights 0 36 n_fweights), (wO4 rd tp d rd_kindWords ww fk fp nx tk tpl tv), (wI g rd_kindWords 0 4 kwf), (wO9 tl tl_bytes otl_95824), (wI g tl_bytes 0 700 otf_95825)] H := hP
                    have hD : va_D A [(wO2 n n_nodes n_kind n_pay n_name n_ways n_held n_targets n_weights), (wI g n_kind 0 12 n_fkind), (wI g n_pay 0 12 n_fpay), (wI g n_name 0 12 n_fname), (wI g n_ways 0 12 n_fways), (wI g n_held 0 12 n_fheld), (wI g n_targets 0 36 n_ftargets), (wI g n_weights 0 36 n_fweights), (wO4 rd tp d rd_kindWords ww fk fp nx tk tpl tv), (wI g rd_kindWords 0 4 kwf), (wO9 tl tl_bytes otl_95824), (wI g tl_bytes 0 700 otf_95825)] := hD
                    refine lv_aload_n hx hb dX9_tell_129 rfl (lv_at hl 3 rfl) ?_
                    refine va_get (D := D) (ci := 2) (v := .ref n_kind) (C := RX2) (T := TX2) (N := 8) hx hb hts inlX2 hown hK hP 0 rfl rfl 1 (by decide) (hts (Cond.fieldLink RX9 29 "ChanceRings$Net" "kind" "[I") qw_832) (fun _ h9 => h9) rfl dX9_tell_130 ?_
                    refine lv_iload_n hx hb dX9_tell_133 rfl (lv_at hl 1 rfl) ?_
                    refine va_iald hx hb hK hP 1 0 rfl rfl (tr_in h_95697 (by decide) (by decide)) dX9_tell_134 ?_
                    refine lv_topi (fun v_95828 v_95828_e => ?_)
                    have h_v_95828 : 0 ≤ (v_95828 : Int32).toInt ∧ (v_95828 : Int32).toInt ≤ 3 := by rw [v_95828_e]; exact h_n_fkind _
                    have g_v_95828 : v_95828 = n_fkind (x_95692.toInt.toNat) := v_95828_e.trans (congrArg n_fkind rfl)
                    have gi_v_95828 := congrArg Int32.toInt g_v_95828
                    refine lv_iconst (v := 3) hx hb dX9_tell_135 (by decide) ?_
                    refine lv_icmp_ne (tgt := 150) hx hb dX9_tell_136 (by decide) (fun c_95829 => ?_) (fun c_95829 => ?_)
                    · skip
                      have kk_3 := tk_3
                      have c_95829_i : ¬ (v_95828 : Int32).toInt = (3 : Int32).toInt := (fun q => c_95829 (Int32.toInt_inj.mp q))
                      have h_95830 : 0 ≤ (v_95828 : Int32).toInt ∧ (v_95828 : Int32).toInt ≤ 2 := nr_ne_l h_v_95828 (⟨by decide, by decide⟩ : 3 ≤ (3 : Int32).toInt ∧ (3 : Int32).toInt ≤ 3) c_95829_i (by decide) (by decide)
                      refine lv_aload_n hx hb dX9_tell_150 rfl (lv_at hl 2 rfl) ?_
                      refine lv_bipush (v := 59) hx hb dX9_tell_151 (by decide) ?_
                      have hPc := hP.sub (ws' := [(wO9 tl tl_bytes otl_95824), (wI g tl_bytes 0 700 otf_95825)]) [10, 11] rfl
                      have hDc := hD.sub (ws' := [(wO9 tl tl_bytes otl_95824), (wI g tl_bytes 0 700 otf_95825)]) [10, 11] (by decide) rfl
                      have hFc := va_free (wc := [(wO9 tl tl_bytes otl_95824), (wI g tl_bytes 0 700 otf_95825)]) hD hS hA [10, 11] rfl
                      refine va_callv (va_runV (As := [.int 59]) (rest := []) ⟨hx, hb, hml, hown, hts⟩ (c_X9_putT l D g H.size tl 59 tl_bytes otl_95824 otf_95825 (tr_w hf_95826 (by decide) (by decide))) (cwV 1 hts (tz_gV qw_348 qw_349 qw_350 qw_351 qw_352) rfl rfl rfl (by decide +kernel) ⟨Nat.le_of_ble_eq_true rfl, Nat.le_of_ble_eq_true rfl⟩) ⟨tz_blQ, va_recv hK hPc (ci := 9) (q0 := 0) rfl rfl, tz_preQ hPc hK hDc⟩ rfl rfl hl.1 rfl (lv_room (Nat.le_of_ble_eq_true rfl)) dX9_tell_153 ⟨Nat.le_of_ble_eq_true rfl, Nat.le_of_ble_eq_true rfl⟩) hS (fun q _ h => hFc q h) hFc (fun u t H1 locs ht hvm hw hB hz1 hk1 hS => ?_)
                      obtain ⟨otl_95833, otf_95834, hf_95835, hf_95836, hP1, hD1⟩ := hB
                      rw [ht] at hP1
                      obtain ⟨hP, hD⟩ := va_join (wr := [(wO2 n n_nodes n_kind n_pay n_name n_ways n_held n_targets n_weights), (wI g n_kind 0 12 n_fkind), (wI g n_pay 0 12 n_fpay), (wI g n_name 0 12 n_fname), (wI g n_ways 0 12 n_fways), (wI g n_held 0 12 n_fheld), (wI g n_targets 0 36 n_ftargets), (wI g n_weights 0 36 n_fweights), (wO4 rd tp d rd_kindWords ww fk fp nx tk tpl tv), (wI g rd_kindWords 0 4 kwf)]) (w1 := [(wO9 tl tl_bytes otl_95833), (wI g tl_bytes 0 700 otf_95834)]) hP hD [10, 11] [0, 1, 2, 3, 4, 5, 6, 7, 8, 9] rfl rfl (by decide) (by decide) hk1 hFc hP1 hD1
                      generalize H1 = H at hP hS ⊢
                      have hP : va_P D vwCl [(wO2 n n_nodes n_kind n_pay n_name n_ways n_held n_targets n_weights), (wI g n_kind 0 12 n_fkind), (wI g n_pay 0 12 n_fpay), (wI g n_name 0 12 n_fname), (wI g n_ways 0 12 n_fways), (wI g n_held 0 12 n_fheld), (wI g n_targets 0 36 n_ftargets), (wI g n_weights 0 36 n_fweights), (wO4 rd tp d rd_kindWords ww fk fp nx tk tpl tv), (wI g rd_kindWords 0 4 kwf), (wO9 tl tl_bytes otl_95833), (wI g tl_bytes 0 700 otf_95834)] H := hP
                      have hD : va_D A [(wO2 n n_nodes n_kind n_pay n_name n_ways n_held n_targets n_weights), (wI g n_kind 0 12 n_fkind), (wI g n_pay 0 12 n_fpay), (wI g n_name 0 12 n_fname), (wI g n_ways 0 12 n_fways), (wI g n_held 0 12 n_fheld), (wI g n_targets 0 36 n_ftargets), (wI g n_weights 0 36 n_fweights), (wO4 rd tp d rd_kindWords ww fk fp nx tk tpl tv), (wI g rd_kindWords 0 4 kwf), (wO9 tl tl_bytes otl_95833), (wI g tl_bytes 0 700 otf_95834)] := hD
                      obtain ⟨v_95837, v_95837_e⟩ : ∃ y : Int32, y = x_95800 + Int32.ofInt 1 := ⟨_, rfl⟩
                      have h_v_95837 : 1 ≤ (v_95837 : Int32).toInt ∧ (v_95837 : Int32).toInt ≤ 3 := by rw [v_95837_e]; exact tr_add h_95806 (⟨by decide, by decide⟩ : 1 ≤ (Int32.ofInt 1 : Int32).toInt ∧ (Int32.ofInt 1 : Int32).toInt ≤ 1) (by decide) (by decide) (by decide) (by decide)
                      have q_v_95837 : v_95837.toInt = x_95800.toInt + 1 := by rw [v_95837_e]; exact tr_addE h_95806 (⟨by decide, by decide⟩ : 1 ≤ (Int32.ofInt 1 : Int32).toInt ∧ (Int32.ofInt 1 : Int32).toInt ≤ 1) (by decide) (by decide)
                      refine lv_iinc (v := v_95837) (lv' := [(4, .int v_95837), (3, .int x_95692), (0, .ref tl), (1, .ref n), (2, .ref rd)]) hx hb dX9_tell_156 hl (k := 0) rfl v_95837_e.symm (by decide) rfl (fun ls hl => ?_)
                      refine lv_goto (tgt := 84) hx hb dX9_tell_159 (by decide) ?_
                      exact ih_95803 v_95837 otl_95833 otf_95834 H _ ls (tr_w h_v_95837 (by decide) (by decide)) (tr_w hf_95835 (by decide) (by decide)) (by have z_0 := tk_0; have q9 := h_n_fways (x_95692.toInt.toNat); (first | (clear h_tll h_fk h_fp h_nx h_tk h_tpl h_x_95371 h_x_95693 h_x_95801; omega) | omega)) (TXS.way (y := 0) hr95803_1 hf_95813 hww hf_95819 (by rw [absC_n]; exact gi_v_95814) hf_95827 (by rw [absC_t (by (first | (clear h_tll h_fk h_fp h_nx h_tk h_tpl h_x_95371 h_x_95693 h_x_95801; omega) | omega)) (by (first | (clear h_tll h_fk h_fp h_nx h_tk h_tpl h_x_95371 h_x_95693 h_x_95801; omega) | omega)), absC_n, ← hw_95821_p0]; exact gi_v_95822) (Or.inr ⟨(by rw [absC_k (by (first | (clear h_tll h_fk h_fp h_nx h_tk h_tpl h_x_95371 h_x_95693 h_x_95801; omega) | omega))]; have q8 := gi_v_95828; have z_3 := tk_3; (first | (clear h_tll h_fk h_fp h_nx h_tk h_tpl h_x_95371 h_x_95693 h_x_95801; omega) | omega)), rfl, rfl⟩) hf_95836 tk_59 (by (first | (clear h_tll h_fk h_fp h_nx h_tk h_tpl h_x_95371 h_x_95693 h_x_95801; omega) | omega))) (by (first | (clear h_tll h_fk h_fp h_nx h_tk h_tpl h_x_95371 h_x_95693 h_x_95801; omega) | omega)) (hP.sub [10, 11, 0, 1, 2, 3, 4, 5, 6, 7, 8, 9] rfl) (hD.sub [10, 11, 0, 1, 2, 3, 4, 5, 6, 7, 8, 9] (by decide) rfl) hS (lv_sub hl [0, 1, 2, 3, 4] rfl)
                    · skip
                      have kk_3 := tk_3
                      have c_95829_i : (v_95828 : Int32).toInt = (3 : Int32).toInt := congrArg Int32.toInt c_95829
                      have h_95831 : 3 ≤ (v_95828 : Int32).toInt ∧ (v_95828 : Int32).toInt ≤ 3 := nr_eq_l h_v_95828 (⟨by decide, by decide⟩ : 3 ≤ (3 : Int32).toInt ∧ (3 : Int32).toInt ≤ 3) c_95829_i (by decide) (by decide)
                      refine lv_aload_n hx hb dX9_tell_139 rfl (lv_at hl 2 rfl) ?_
                      refine lv_aload_n hx hb dX9_tell_140 rfl (lv_at hl 3 rfl) ?_
                      refine lv_iload_n hx hb dX9_tell_141 rfl (lv_at hl 1 rfl) ?_
                      refine lv_iload hx hb dX9_tell_142 (lv_at hl 0 rfl) ?_
                      have hPc := hP.sub (ws' := [(wO2 n n_nodes n_kind n_pay n_name n_ways n_held n_targets n_weights), (wI g n_weights 0 36 n_fweights)]) [0, 7] rfl
                      refine vp_callSi (va_Run.run (va_runV (As := [.int x_95692, .int x_95800]) (rest := [.ref tl]) ⟨hx, hb, hml, hown, hts⟩ (c_X2_weightN l D g n x_95692 x_95800 n_nodes n_kind n_pay n_name n_ways n_held n_targets n_weights n_fweights (tr_w h_95697 (by decide) (by decide)) (tr_w h_95806 (by decide) (by decide)) (tr_w h_95698 (by decide) (by decide))) (cwV 2 hts (tz_gV qw_833 qw_590 qw_591 qw_322 qw_592) rfl rfl rfl (by decide +kernel) ⟨Nat.le_of_ble_eq_true rfl, Nat.le_of_ble_eq_true rfl⟩) ⟨tz_blS, va_recv hK hPc (ci := 2) (q0 := 0) rfl rfl, tz_preS hPc hK⟩ rfl rfl hl.1 rfl (lv_room (Nat.le_of_ble_eq_true rfl)) dX9_tell_144 ⟨Nat.le_of_ble_eq_true rfl, Nat.le_of_ble_eq_true rfl⟩)) (fun r_95838 hw => ?_)
                      have hw_95839_p0 : (r_95838 : Int32).toInt = (n_fweights (3 * (x_95692 : Int32).toInt.toNat + (x_95800 : Int32).toInt.toNat)).toInt := hw.2
                      have h_95840 : 0 ≤ (r_95838 : Int32).toInt ∧ (r_95838 : Int32).toInt ≤ 9 := by have q9 := nx_9.2; have q8 := hw_95839_p0; (first | (clear h_tll h_fk h_fp h_nx h_tk h_tpl hww h_x_95371 h_x_95693 h_x_95801; omega) | omega)
                      have hPc := hP.sub (ws' := [(wO9 tl tl_bytes otl_95824), (wI g tl_bytes 0 700 otf_95825)]) [10, 11] rfl
                      have hDc := hD.sub (ws' := [(wO9 tl tl_bytes otl_95824), (wI g tl_bytes 0 700 otf_95825)]) [10, 11] (by decide) rfl
                      have hFc := va_free (wc := [(wO9 tl tl_bytes otl_95824), (wI g tl_bytes 0 700 otf_95825)]) hD hS hA [10, 11] rfl
                      refine va_callv (va_runV (As := [.int r_95838]) (rest := []) ⟨hx, hb, hml, hown, hts⟩ (c_X9_putDigitT l D g H.size tl r_95838 tl_bytes otl_95824 otf_95825 (tr_w h_95840 (by decide) (by decide)) (tr_w hf_95826 (by decide) (by decide))) (cwV 1 hts (tz_gV qw_834 qw_835 qw_836 qw_351 qw_837) rfl rfl rfl (by decide +kernel) ⟨Nat.le_of_ble_eq_true rfl, Nat.le_of_ble_eq_true rfl⟩) ⟨tz_blQ, va_recv hK hPc (ci := 9) (q0 := 0) rfl rfl, tz_preQ hPc hK hDc⟩ rfl rfl hl.1 rfl (lv_room (Nat.le_of_ble_eq_true rfl)) dX9_tell_147 ⟨Nat.le_of_ble_eq_true rfl, Nat.le_of_ble_eq_true rfl⟩) hS (fun q _ h => hFc q h) hFc (fun u t H1 locs ht hvm hw hB hz1 hk1 hS => ?_)
                      obtain ⟨otl_95842, otf_95843, hf_95844, hf_95845, hP1, hD1⟩ := hB
                      rw [ht] at hP1
                      obtain ⟨hP, hD⟩ := va_join (wr := [(wO2 n n_nodes n_kind n_pay n_name n_ways n_held n_targets n_weights), (wI g n_kind 0 12 n_fkind), (wI g n_pay 0 12 n_fpay), (wI g n_name 0 12 n_fname), (wI g n_ways 0 12 n_fways), (wI g n_held 0 12 n_fheld), (wI g n_targets 0 36 n_ftargets), (wI g n_weights 0 36 n_fweights), (wO4 rd tp d rd_kindWords ww fk fp nx tk tpl tv), (wI g rd_kindWords 0 4 kwf)]) (w1 := [(wO9 tl tl_bytes otl_95842), (wI g tl_bytes 0 700 otf_95843)]) hP hD [10, 11] [0, 1, 2, 3, 4, 5, 6, 7, 8, 9] rfl rfl (by decide) (by decide) hk1 hFc hP1 hD1
                      generalize H1 = H at hP hS ⊢
                      have hP : va_P D vwCl [(wO2 n n_nodes n_kind n_pay n_name n_ways n_held n_targets n_weights), (wI g n_kind 0 12 n_fkind), (wI g n_pay 0 12 n_fpay), (wI g n_name 0 12 n_fname), (wI g n_ways 0 12 n_fways), (wI g n_held 0 12 n_fheld), (wI g n_targets 0 36 n_ftargets), (wI g n_weights 0 36 n_fweights), (wO4 rd tp d rd_kindWords ww fk fp nx tk tpl tv), (wI g rd_kindWords 0 4 kwf), (wO9 tl tl_bytes otl_95842), (wI g tl_bytes 0 700 otf_95843)] H := hP
                      have hD : va_D A [(wO2 n n_nodes n_kind n_pay n_name n_ways n_held n_targets n_weights), (wI g n_kind 0 12 n_fkind), (wI g n_pay 0 12 n_fpay), (wI g n_name 0 12 n_fname), (wI g n_ways 0 12 n_fways), (wI g n_held 0 12 n_fheld), (wI g n_targets 0 36 n_ftargets), (wI g n_weights 0 36 n_fweights), (wO4 rd tp d rd_kindWords ww fk fp nx tk tpl tv), (wI g rd_kindWords 0 4 kwf), (wO9 tl tl_bytes otl_95842), (wI g tl_bytes 0 700 otf_95843)] := hD
                      refine lv_aload_n hx hb dX9_tell_150 rfl (lv_at hl 2 rfl) ?_
                      refine lv_bipush (v := 59) hx hb dX9_tell_151 (by decide) ?_
                      have hPc := hP.sub (ws' := [(wO9 tl tl_bytes otl_95842), (wI g tl_bytes 0 700 otf_95843)]) [10, 11] rfl
                      have hDc := hD.sub (ws' := [(wO9 tl tl_bytes otl_95842), (wI g tl_bytes 0 700 otf_95843)]) [10, 11] (by decide) rfl
                      have hFc := va_free (wc := [(wO9 tl tl_bytes otl_95842), (wI g tl_bytes 0 700 otf_95843)]) hD hS hA [10, 11] rfl
                      refine va_callv (va_runV (As := [.int 59]) (rest := []) ⟨hx, hb, hml, hown, hts⟩ (c_X9_putT l D g H.size tl 59 tl_bytes otl_95842 otf_95843 (tr_w hf_95844 (by decide) (by decide))) (cwV 1 hts (tz_gV qw_348 qw_349 qw_350 qw_351 qw_352) rfl rfl rfl (by decide +kernel) ⟨Nat.le_of_ble_eq_true rfl, Nat.le_of_ble_eq_true rfl⟩) ⟨tz_blQ, va_recv hK hPc (ci := 9) (q0 := 0) rfl rfl, tz_preQ hPc hK hDc⟩ rfl rfl hl.1 rfl (lv_room (Nat.le_of_ble_eq_true rfl)) dX9_tell_153 ⟨Nat.le_of_ble_eq_true rfl, Nat.le_of_ble_eq_true rfl⟩) hS (fun q _ h => hFc q h) hFc (fun u t H1 locs ht hvm hw hB hz1 hk1 hS => ?_)
                      obtain ⟨otl_95847, otf_95848, hf_95849, hf_95850, hP1, hD1⟩ := hB
                      rw [ht] at hP1
                      obtain ⟨hP, hD⟩ := va_join (wr := [(wO2 n n_nodes n_kind n_pay n_name n_ways n_held n_targets n_weights), (wI g n_kind 0 12 n_fkind), (wI g n_pay 0 12 n_fpay), (wI g n_name 0 12 n_fname), (wI g n_ways 0 12 n_fways), (wI g n_held 0 12 n_fheld), (wI g n_targets 0 36 n_ftargets), (wI g n_weights 0 36 n_fweights), (wO4 rd tp d rd_kindWords ww fk fp nx tk tpl tv), (wI g rd_kindWords 0 4 kwf)]) (w1 := [(wO9 tl tl_bytes otl_95847), (wI g tl_bytes 0 700 otf_95848)]) hP hD [10, 11] [0, 1, 2, 3, 4, 5, 6, 7, 8, 9] rfl rfl (by decide) (by decide) hk1 hFc hP1 hD1
                      generalize H1 = H at hP hS ⊢
                      have hP : va_P D vwCl [(wO2 n n_nodes n_kind n_pay n_name n_ways n_held n_targets n_weights), (wI g n_kind 0 12 n_fkind), (wI g n_pay 0 12 n_fpay), (wI g n_name 0 12 n_fname), (wI g n_ways 0 12 n_fways), (wI g n_held 0 12 n_fheld), (wI g n_targets 0 36 n_ftargets), (wI g n_weights 0 36 n_fweights), (wO4 rd tp d rd_kindWords ww fk fp nx tk tpl tv), (wI g rd_kindWords 0 4 kwf), (wO9 tl tl_bytes otl_95847), (wI g tl_bytes 0 700 otf_95848)] H := hP
                      have hD : va_D A [(wO2 n n_nodes n_kind n_pay n_name n_ways n_held n_targets n_weights), (wI g n_kind 0 12 n_fkind), (wI g n_pay 0 12 n_fpay), (wI g n_name 0 12 n_fname), (wI g n_ways 0 12 n_fways), (wI g n_held 0 12 n_fheld), (wI g n_targets 0 36 n_ftargets), (wI g n_weights 0 36 n_fweights), (wO4 rd tp d rd_kindWords ww fk fp nx tk tpl tv), (wI g rd_kindWords 0 4 kwf), (wO9 tl tl_bytes otl_95847), (wI g tl_bytes 0 700 otf_95848)] := hD
                      obtain ⟨v_95851, v_95851_e⟩ : ∃ y : Int32, y = x_95800 + Int32.ofInt 1 := ⟨_, rfl⟩
                      have h_v_95851 : 1 ≤ (v_95851 : Int32).toInt ∧ (v_95851 : Int32).toInt ≤ 3 := by rw [v_95851_e]; exact tr_add h_95806 (⟨by decide, by decide⟩ : 1 ≤ (Int32.ofInt 1 : Int32).toInt ∧ (Int32.ofInt 1 : Int32).toInt ≤ 1) (by decide) (by decide) (by decide) (by decide)
                      have q_v_95851 : v_95851.toInt = x_95800.toInt + 1 := by rw [v_95851_e]; exact tr_addE h_95806 (⟨by decide, by decide⟩ : 1 ≤ (Int32.ofInt 1 : Int32).toInt ∧ (Int32.ofInt 1 : Int32).toInt ≤ 1) (by decide) (by decide)
                      refine lv_iinc (v := v_95851) (lv' := [(4, .int v_95851), (3, .int x_95692), (0, .ref tl), (1, .ref n), (2, .ref rd)]) hx hb dX9_tell_156 hl (k := 0) rfl v_95851_e.symm (by decide) rfl (fun ls hl => ?_)
                      refine lv_goto (tgt := 84) hx hb dX9_tell_159 (by decide) ?_
                      exact ih_95803 v_95851 otl_95847 otf_95848 H _ ls (tr_w h_v_95851 (by decide) (by decide)) (tr_w hf_95849 (by decide) (by decide)) (by have z_0 := tk_0; have q9 := h_n_fways (x_95692.toInt.toNat); (first | (clear h_tll h_fk h_fp h_nx h_tk h_tpl h_x_95371 h_x_95693 h_x_95801; omega) | omega)) (TXS.way hr95803_1 hf_95813 hww hf_95819 (by rw [absC_n]; exact gi_v_95814) hf_95827 (by rw [absC_t (by (first | (clear h_tll h_fk h_fp h_nx h_tk h_tpl h_x_95371 h_x_95693 h_x_95801; omega) | omega)) (by (first | (clear h_tll h_fk h_fp h_nx h_tk h_tpl h_x_95371 h_x_95693 h_x_95801; omega) | omega)), absC_n, ← hw_95821_p0]; exact gi_v_95822) (Or.inl ⟨(by rw [absC_k (by (first | (clear h_tll h_fk h_fp h_nx h_tk h_tpl h_x_95371 h_x_95693 h_x_95801; omega) | omega))]; have q8 := gi_v_95828; have z_3 := tk_3; (first | (clear h_tll h_fk h_fp h_nx h_tk h_tpl h_x_95371 h_x_95693 h_x_95801; omega) | omega)), hf_95845, (by rw [absC_x (by (first | (clear h_tll h_fk h_fp h_nx h_tk h_tpl h_x_95371 h_x_95693 h_x_95801; omega) | omega)) (by (first | (clear h_tll h_fk h_fp h_nx h_tk h_tpl h_x_95371 h_x_95693 h_x_95801; omega) | omega))]; exact hw_95839_p0)⟩) hf_95850 tk_59 (by (first | (clear h_tll h_fk h_fp h_nx h_tk h_tpl h_x_95371 h_x_95693 h_x_95801; omega) | omega))) (by (first | (clear h_tll h_fk h_fp h_nx h_tk h_tpl h_x_95371 h_x_95693 h_x_95801; omega) | omega)) (hP.sub [10, 11, 0, 1, 2, 3, 4, 5, 6, 7, 8, 9] rfl) (hD.sub [10, 11, 0, 1, 2, 3, 4, 5, 6, 7, 8, 9] (by decide) rfl) hS (lv_sub hl [0, 1, 2, 3, 4] rfl)
              exact lp_95803 4 0 x_95693 f_95694 H _ ls (⟨by decide, by decide⟩ : 0 ≤ (0 : Int32).toInt ∧ (0 : Int32).toInt ≤ 3) (tr_w h_x_95693 (by decide) (by decide)) (by have z_0 := tk_0; have q9 := h_n_fways (x_95692.toInt.toNat); (first | (clear h_tll h_fk h_fp h_nx h_tk h_tpl hww h_x_95371; omega) | omega)) (TXS.ways0 hr95695_1) (by decide) (hP.sub [0, 1, 2, 3, 4, 5, 6, 7, 8, 9, 10, 11] rfl) (hD.sub [0, 1, 2, 3, 4, 5, 6, 7, 8, 9, 10, 11] (by decide) rfl) hS (lv_sub hl [0, 1, 2, 3, 4] rfl)
        exact lp_95695 13 0 x_95371 f_95372 H _ ls (⟨by decide, by decide⟩ : 0 ≤ (0 : Int32).toInt ∧ (0 : Int32).toInt ≤ 12) (tr_w h_x_95371 (by decide) (by decide)) (by have z_0 := tk_0; (first | (clear h_tll h_fk h_fp h_nx h_tk h_tpl hww; omega) | omega)) (TXS.vways0 ((by (first | (clear h_tll h_fk h_fp h_nx h_tk h_tpl hww; omega) | omega) : x_95370.toInt.toNat = (n_nodes : Int32).toInt.toNat) ▸ hr95373_1)) (by decide) (hP.sub [0, 1, 2, 3, 4, 5, 6, 7, 8, 9, 10, 11] rfl) (hD.sub [0, 1, 2, 3, 4, 5, 6, 7, 8, 9, 10, 11] (by decide) rfl) hS (lv_sub hl [0, 1, 2, 3] rfl)
      · skip
        have c_95374_i := Int32.lt_iff_toInt_lt.mp (Int32.not_le.mp c_95374)
        have h_95375 : 0 ≤ (x_95370 : Int32).toInt ∧ (x_95370 : Int32).toInt ≤ 11 := nr_lt_l h_x_95370 h_n_nodes c_95374_i (by decide) (by decide)
        have h_95376 : 1 ≤ (n_nodes : Int32).toInt ∧ (n_nodes : Int32).toInt ≤ 12 := nr_lt_r h_x_95370 h_n_nodes c_95374_i (by decide) (by decide)
        refine lv_aload_n hx hb dX9_tell_15 rfl (lv_at hl 1 rfl) ?_
        refine lv_aload_n hx hb dX9_tell_16 rfl (lv_at hl 3 rfl) ?_
        refine va_get (D := D) (ci := 4) (v := .ref rd_kindWords) (C := RX4) (T := TX4) (N := 10) hx hb hts inlX4 hown hK hP 10 rfl rfl 2 (by decide) (hts (Cond.fieldLink RX9 24 "ChanceRings$Reader" "kindWords" "[I") qw_838) (fun _ h9 => h9) rfl dX9_tell_17 ?_
        refine lv_aload_n hx hb dX9_tell_20 rfl (lv_at hl 2 rfl) ?_
        refine va_get (D := D) (ci := 2) (v := .ref n_kind) (C := RX2) (T := TX2) (N := 8) hx hb hts inlX2 hown hK hP 2 rfl rfl 1 (by decide) (hts (Cond.fieldLink RX9 29 "ChanceRings$Net" "kind" "[I") qw_832) (fun _ h9 => h9) rfl dX9_tell_21 ?_
        refine lv_iload_n hx hb dX9_tell_24 rfl (lv_at hl 0 rfl) ?_
        refine va_iald hx hb hK hP 3 0 rfl rfl (tr_in h_95375 (by decide) (by decide)) dX9_tell_25 ?_
        refine lv_topi (fun v_95852 v_95852_e => ?_)
        have h_v_95852 : 0 ≤ (v_95852 : Int32).toInt ∧ (v_95852 : Int32).toInt ≤ 3 := by rw [v_95852_e]; exact h_n_fkind _
        have g_v_95852 : v_95852 = n_fkind (x_95370.toInt.toNat) := v_95852_e.trans (congrArg n_fkind rfl)
        have gi_v_95852 := congrArg Int32.toInt g_v_95852
        refine va_iald hx hb hK hP 11 0 rfl rfl (tr_in h_v_95852 (by decide) (by decide)) dX9_tell_26 ?_
        refine lv_topi (fun v_95853 v_95853_e => ?_)
        have g_v_95853 : v_95853 = kwf (v_95852.toInt.toNat) := v_95853_e.trans (congrArg kwf rfl)
        have gi_v_95853 := congrArg Int32.toInt g_v_95853
        have hPc := hP.sub (ws' := [(wO9 tl tl_bytes x_95371), (wI g tl_bytes 0 700 f_95372)]) [0, 1] rfl
        have hDc := hD.sub (ws' := [(wO9 tl tl_bytes x_95371), (wI g tl_bytes 0 700 f_95372)]) [0, 1] (by decide) rfl
        have hFc := va_free (wc := [(wO9 tl tl_bytes x_95371), (wI g tl_bytes 0 700 f_95372)]) hD hS hA [0, 1] rfl
        refine va_callv (va_runV (As := [.int v_95853]) (rest := []) ⟨hx, hb, hml, hown, hts⟩ (c_X9_putWordT l D g H.size tl v_95853 tl_bytes x_95371 f_95372 (tr_w h_x_95371 (by decide) (by decide)) (by rw [gi_v_95853, KWs.at hkw (by (first | (clear h_tll h_n_nodes h_fk h_fp h_nx h_tk h_tpl hww h_95376; omega) | omega))]; exact kwn_nn _)) (cwV 1 hts (tz_gV qw_354 qw_355 qw_356 qw_351 qw_357) rfl rfl rfl (by decide +kernel) ⟨Nat.le_of_ble_eq_true rfl, Nat.le_of_ble_eq_true rfl⟩) ⟨tz_blQ, va_recv hK hPc (ci := 9) (q0 := 0) rfl rfl, tz_preQ hPc hK hDc⟩ rfl rfl hl.1 rfl (lv_room (Nat.le_of_ble_eq_true rfl)) dX9_tell_27 ⟨Nat.le_of_ble_eq_true rfl, Nat.le_of_ble_eq_true rfl⟩) hS (fun q _ h => hFc q h) hFc (fun u t H1 locs ht hvm hw hB hz1 hk1 hS => ?_)
        obtain ⟨otl_95855, otf_95856, hf_95857, hf_95858, hP1, hD1⟩ := hB
        rw [ht] at hP1
        obtain ⟨hP, hD⟩ := va_join (wr := [(wO2 n n_nodes n_kind n_pay n_name n_ways n_held n_targets n_weights), (wI g n_kind 0 12 n_fkind), (wI g n_pay 0 12 n_fpay), (wI g n_name 0 12 n_fname), (wI g n_ways 0 12 n_fways), (wI g n_held 0 12 n_fheld), (wI g n_targets 0 36 n_ftargets), (wI g n_weights 0 36 n_fweights), (wO4 rd tp d rd_kindWords ww fk fp nx tk tpl tv), (wI g rd_kindWords 0 4 kwf)]) (w1 := [(wO9 tl tl_bytes otl_95855), (wI g tl_bytes 0 700 otf_95856)]) hP hD [0, 1] [2, 3, 4, 5, 6, 7, 8, 9, 10, 11] rfl rfl (by decide) (by decide) hk1 hFc hP1 hD1
        generalize H1 = H at hP hS ⊢
        have hP : va_P D vwCl [(wO2 n n_nodes n_kind n_pay n_name n_ways n_held n_targets n_weights), (wI g n_kind 0 12 n_fkind), (wI g n_pay 0 12 n_fpay), (wI g n_name 0 12 n_fname), (wI g n_ways 0 12 n_fways), (wI g n_held 0 12 n_fheld), (wI g n_targets 0 36 n_ftargets), (wI g n_weights 0 36 n_fweights), (wO4 rd tp d rd_kindWords ww fk fp nx tk tpl tv), (wI g rd_kindWords 0 4 kwf), (wO9 tl tl_bytes otl_95855), (wI g tl_bytes 0 700 otf_95856)] H := hP
        have hD : va_D A [(wO2 n n_nodes n_kind n_pay n_name n_ways n_held n_targets n_weights), (wI g n_kind 0 12 n_fkind), (wI g n_pay 0 12 n_fpay), (wI g n_name 0 12 n_fname), (wI g n_ways 0 12 n_fways), (wI g n_held 0 12 n_fheld), (wI g n_targets 0 36 n_ftargets), (wI g n_weights 0 36 n_fweights), (wO4 rd tp d rd_kindWords ww fk fp nx tk tpl tv), (wI g rd_kindWords 0 4 kwf), (wO9 tl tl_bytes otl_95855), (wI g tl_bytes 0 700 otf_95856)] := hD
        refine lv_aload_n hx hb dX9_tell_30 rfl (lv_at hl 1 rfl) ?_
        refine lv_aload_n hx hb dX9_tell_31 rfl (lv_at hl 2 rfl) ?_
        refine va_get (D := D) (ci := 2) (v := .ref n_name) (C := RX2) (T := TX2) (N := 8) hx hb hts inlX2 hown hK hP 0 rfl rfl 3 (by decide) (hts (Cond.fieldLink RX9 36 "ChanceRings$Net" "name" "[I") qw_826) (fun _ h9 => h9) rfl dX9_tell_32 ?_
        refine lv_iload_n hx hb dX9_tell_35 rfl (lv_at hl 0 rfl) ?_
        refine va_iald hx hb hK hP 3 0 rfl rfl (tr_in h_95375 (by decide) (by decide)) dX9_tell_36 ?_
        refine lv_topi (fun v_95859 v_95859_e => ?_)
        have g_v_95859 : v_95859 = n_fname (x_95370.toInt.toNat) := v_95859_e.trans (congrArg n_fname rfl)
        have gi_v_95859 := congrArg Int32.toInt g_v_95859
        have hPc := hP.sub (ws' := [(wO9 tl tl_bytes otl_95855), (wI g tl_bytes 0 700 otf_95856)]) [10, 11] rfl
        have hDc := hD.sub (ws' := [(wO9 tl tl_bytes otl_95855), (wI g tl_bytes 0 700 otf_95856)]) [10, 11] (by decide) rfl
        have hFc := va_free (wc := [(wO9 tl tl_bytes otl_95855), (wI g tl_bytes 0 700 otf_95856)]) hD hS hA [10, 11] rfl
        refine va_callv (va_runV (As := [.int v_95859]) (rest := []) ⟨hx, hb, hml, hown, hts⟩ (c_X9_putSpacedT l D g H.size tl v_95859 tl_bytes otl_95855 otf_95856 (tr_w hf_95857 (by decide) (by decide)) (by rw [gi_v_95859]; exact (hnx _ (by (first | (clear h_tll h_fk h_fp h_nx h_tk h_tpl hww h_x_95371; omega) | omega))).1)) (cwV 1 hts (tz_gV qw_827 qw_828 qw_829 qw_351 qw_830) rfl rfl rfl (by decide +kernel) ⟨Nat.le_of_ble_eq_true rfl, Nat.le_of_ble_eq_true rfl⟩) ⟨tz_blQ, va_recv hK hPc (ci := 9) (q0 := 0) rfl rfl, tz_preQ hPc hK hDc⟩ rfl rfl hl.1 rfl (lv_room (Nat.le_of_ble_eq_true rfl)) dX9_tell_37 ⟨Nat.le_of_ble_eq_true rfl, Nat.le_of_ble_eq_true rfl⟩) hS (fun q _ h => hFc q h) hFc (fun u t H1 locs ht hvm hw hB hz1 hk1 hS => ?_)
        obtain ⟨otl_95861, otf_95862, hf_95863, hf_95864, hP1, hD1⟩ := hB
        rw [ht] at hP1
        obtain ⟨hP, hD⟩ := va_join (wr := [(wO2 n n_nodes n_kind n_pay n_name n_ways n_held n_targets n_weights), (wI g n_kind 0 12 n_fkind), (wI g n_pay 0 12 n_fpay), (wI g n_name 0 12 n_fname), (wI g n_ways 0 12 n_fways), (wI g n_held 0 12 n_fheld), (wI g n_targets 0 36 n_ftargets), (wI g n_weights 0 36 n_fweights), (wO4 rd tp d rd_kindWords ww fk fp nx tk tpl tv), (wI g rd_kindWords 0 4 kwf)]) (w1 := [(wO9 tl tl_bytes otl_95861), (wI g tl_bytes 0 700 otf_95862)]) hP hD [10, 11] [0, 1, 2, 3, 4, 5, 6, 7, 8, 9] rfl rfl (by decide) (by decide) hk1 hFc hP1 hD1
        generalize H1 = H at hP hS ⊢
        have hP : va_P D vwCl [(wO2 n n_nodes n_kind n_pay n_name n_ways n_held n_targets n_weights), (wI g n_kind 0 12 n_fkind), (wI g n_pay 0 12 n_fpay), (wI g n_name 0 12 n_fname), (wI g n_ways 0 12 n_fways), (wI g n_held 0 12 n_fheld), (wI g n_targets 0 36 n_ftargets), (wI g n_weights 0 36 n_fweights), (wO4 rd tp d rd_kindWords ww fk fp nx tk tpl tv), (wI g rd_kindWords 0 4 kwf), (wO9 tl tl_bytes otl_95861), (wI g tl_bytes 0 700 otf_95862)] H := hP
        have hD : va_D A [(wO2 n n_nodes n_kind n_pay n_name n_ways n_held n_targets n_weights), (wI g n_kind 0 12 n_fkind), (wI g n_pay 0 12 n_fpay), (wI g n_name 0 12 n_fname), (wI g n_ways 0 12 n_fways), (wI g n_held 0 12 n_fheld), (wI g n_targets 0 36 n_ftargets), (wI g n_weights 0 36 n_fweights), (wO4 rd tp d rd_kindWords ww fk fp nx tk tpl tv), (wI g rd_kindWords 0 4 kwf), (wO9 tl tl_bytes otl_95861), (wI g tl_bytes 0 700 otf_95862)] := hD
        refine lv_aload_n hx hb dX9_tell_40 rfl (lv_at hl 2 rfl) ?_
        refine va_get (D := D) (ci := 2) (v := .ref n_kind) (C := RX2) (T := TX2) (N := 8) hx hb hts inlX2 hown hK hP 0 rfl rfl 1 (by decide) (hts (Cond.fieldLink RX9 29 "ChanceRings$Net" "kind" "[I") qw_832) (fun _ h9 => h9) rfl dX9_tell_41 ?_
        refine lv_iload_n hx hb dX9_tell_44 rfl (lv_at hl 0 rfl) ?_
        refine va_iald hx hb hK hP 1 0 rfl rfl (tr_in h_95375 (by decide) (by decide)) dX9_tell_45 ?_
        refine tz_i (y := v_95852) ((congrArg n_fkind rfl).trans g_v_95852.symm) ?_
        refine lv_if_ne (tgt := 59) hx hb dX9_tell_46 (by decide) (fun c_95865 => ?_) (fun c_95865 => ?_)
        · skip
          have kk_0 := tk_0
          have c_95865_i : ¬ (v_95852 : Int32).toInt = (0 : Int32).toInt := (fun q => c_95865 (Int32.toInt_inj.mp q))
          have h_95866 : 1 ≤ (v_95852 : Int32).toInt ∧ (v_95852 : Int32).toInt ≤ 3 := nr_ne_l h_v_95852 (⟨by decide, by decide⟩ : 0 ≤ (0 : Int32).toInt ∧ (0 : Int32).toInt ≤ 0) c_95865_i (by decide) (by decide)
          refine lv_aload_n hx hb dX9_tell_59 rfl (lv_at hl 1 rfl) ?_
          refine lv_bipush (v := 59) hx hb dX9_tell_60 (by decide) ?_
          have hPc := hP.sub (ws' := [(wO9 tl tl_bytes otl_95861), (wI g tl_bytes 0 700 otf_95862)]) [10, 11] rfl
          have hDc := hD.sub (ws' := [(wO9 tl tl_bytes otl_95861), (wI g tl_bytes 0 700 otf_95862)]) [10, 11] (by decide) rfl
          have hFc := va_free (wc := [(wO9 tl tl_bytes otl_95861), (wI g tl_bytes 0 700 otf_95862)]) hD hS hA [10, 11] rfl
          refine va_callv (va_runV (As := [.int 59]) (rest := []) ⟨hx, hb, hml, hown, hts⟩ (c_X9_putT l D g H.size tl 59 tl_bytes otl_95861 otf_95862 (tr_w hf_95863 (by decide) (by decide))) (cwV 1 hts (tz_gV qw_348 qw_349 qw_350 qw_351 qw_352) rfl rfl rfl (by decide +kernel) ⟨Nat.le_of_ble_eq_true rfl, Nat.le_of_ble_eq_true rfl⟩) ⟨tz_blQ, va_recv hK hPc (ci := 9) (q0 := 0) rfl rfl, tz_preQ hPc hK hDc⟩ rfl rfl hl.1 rfl (lv_room (Nat.le_of_ble_eq_true rfl)) dX9_tell_62 ⟨Nat.le_of_ble_eq_true rfl, Nat.le_of_ble_eq_true rfl⟩) hS (fun q _ h => hFc q h) hFc (fun u t H1 locs ht hvm hw hB hz1 hk1 hS => ?_)
          obtain ⟨otl_95869, otf_95870, hf_95871, hf_95872, hP1, hD1⟩ := hB
          rw [ht] at hP1
          obtain ⟨hP, hD⟩ := va_join (wr := [(wO2 n n_nodes n_kind n_pay n_name n_ways n_held n_targets n_weights), (wI g n_kind 0 12 n_fkind), (wI g n_pay 0 12 n_fpay), (wI g n_name 0 12 n_fname), (wI g n_ways 0 12 n_fways), (wI g n_held 0 12 n_fheld), (wI g n_targets 0 36 n_ftargets), (wI g n_weights 0 36 n_fweights), (wO4 rd tp d rd_kindWords ww fk fp nx tk tpl tv), (wI g rd_kindWords 0 4 kwf)]) (w1 := [(wO9 tl tl_bytes otl_95869), (wI g tl_bytes 0 700 otf_95870)]) hP hD [10, 11] [0, 1, 2, 3, 4, 5, 6, 7, 8, 9] rfl rfl (by decide) (by decide) hk1 hFc hP1 hD1
          generalize H1 = H at hP hS ⊢
          have hP : va_P D vwCl [(wO2 n n_nodes n_kind n_pay n_name n_ways n_held n_targets n_weights), (wI g n_kind 0 12 n_fkind), (wI g n_pay 0 12 n_fpay), (wI g n_name 0 12 n_fname), (wI g n_ways 0 12 n_fways), (wI g n_held 0 12 n_fheld), (wI g n_targets 0 36 n_ftargets), (wI g n_weights 0 36 n_fweights), (wO4 rd tp d rd_kindWords ww fk fp nx tk tpl tv), (wI g rd_kindWords 0 4 kwf), (wO9 tl tl_bytes otl_95869), (wI g tl_bytes 0 700 otf_95870)] H := hP
          have hD : va_D A [(wO2 n n_nodes n_kind n_pay n_name n_ways n_held n_targets n_weights), (wI g n_kind 0 12 n_fkind), (wI g n_pay 0 12 n_fpay), (wI g n_name 0 12 n_fname), (wI g n_ways 0 12 n_fways), (wI g n_held 0 12 n_fheld), (wI g n_targets 0 36 n_ftargets), (wI g n_weights 0 36 n_fweights), (wO4 rd tp d rd_kindWords ww fk fp nx tk tpl tv), (wI g rd_kindWords 0 4 kwf), (wO9 tl tl_bytes otl_95869), (wI g tl_bytes 0 700 otf_95870)] := hD
          obtain ⟨v_95873, v_95873_e⟩ : ∃ y : Int32, y = x_95370 + Int32.ofInt 1 := ⟨_, rfl⟩
          have h_v_95873 : 1 ≤ (v_95873 : Int32).toInt ∧ (v_95873 : Int32).toInt ≤ 12 := by rw [v_95873_e]; exact tr_add h_95375 (⟨by decide, by decide⟩ : 1 ≤ (Int32.ofInt 1 : Int32).toInt ∧ (Int32.ofInt 1 : Int32).toInt ≤ 1) (by decide) (by decide) (by decide) (by decide)
          have q_v_95873 : v_95873.toInt = x_95370.toInt + 1 := by rw [v_95873_e]; exact tr_addE h_95375 (⟨by decide, by decide⟩ : 1 ≤ (Int32.ofInt 1 : Int32).toInt ∧ (Int32.ofInt 1 : Int32).toInt ≤ 1) (by decide) (by decide)
          refine lv_iinc (v := v_95873) (lv' := [(3, .int v_95873), (0, .ref tl), (1, .ref n), (2, .ref rd)]) hx hb dX9_tell_65 hl (k := 0) rfl v_95873_e.symm (by decide) rfl (fun ls hl => ?_)
          refine lv_goto (tgt := 7) hx hb dX9_tell_68 (by decide) ?_
          exact ih_95373 v_95873 otl_95869 otf_95870 H _ ls (tr_w h_v_95873 (by decide) (by decide)) (tr_w hf_95871 (by decide) (by decide)) (by have z_0 := tk_0; (first | (clear h_tll h_fk h_fp h_nx h_tk h_tpl hww h_x_95371; omega) | omega)) (TXS.node (y := 0) hr95373_1 hf_95858 (by rw [absC_k (by (first | (clear h_tll h_fk h_fp h_nx h_tk h_tpl hww h_x_95371; omega) | omega)), gi_v_95853, KWs.at hkw (by (first | (clear h_tll h_fk h_fp h_nx h_tk h_tpl hww h_x_95371; omega) | omega))]; exact congrArg kwn (by have q8 := gi_v_95852; (first | (clear h_tll h_fk h_fp h_nx h_tk h_tpl hww h_x_95371; omega) | omega))) hf_95864 (by rw [absC_n]; exact gi_v_95859) (Or.inr ⟨(by rw [absC_k (by (first | (clear h_tll h_fk h_fp h_nx h_tk h_tpl hww h_x_95371; omega) | omega))]; have q8 := gi_v_95852; have z_0 := tk_0; (first | (clear h_tll h_fk h_fp h_nx h_tk h_tpl hww h_x_95371; omega) | omega)), rfl, rfl⟩) hf_95872 tk_59 (by (first | (clear h_tll h_fk h_fp h_nx h_tk h_tpl hww h_x_95371; omega) | omega))) (by (first | (clear h_tll h_fk h_fp h_nx h_tk h_tpl hww h_x_95371; omega) | omega)) (hP.sub [10, 11, 0, 1, 2, 3, 4, 5, 6, 7, 8, 9] rfl) (hD.sub [10, 11, 0, 1, 2, 3, 4, 5, 6, 7, 8, 9] (by decide) rfl) hS (lv_sub hl [0, 1, 2, 3] rfl)
        · skip
          have kk_0 := tk_0
          have c_95865_i : (v_95852 : Int32).toInt = (0 : Int32).toInt := congrArg Int32.toInt c_95865
          have h_95867 : 0 ≤ (v_95852 : Int32).toInt ∧ (v_95852 : Int32).toInt ≤ 0 := nr_eq_l h_v_95852 (⟨by decide, by decide⟩ : 0 ≤ (0 : Int32).toInt ∧ (0 : Int32).toInt ≤ 0) c_95865_i (by decide) (by decide)
          refine lv_aload_n hx hb dX9_tell_49 rfl (lv_at hl 1 rfl) ?_
          refine lv_aload_n hx hb dX9_tell_50 rfl (lv_at hl 2 rfl) ?_
          refine va_get (D := D) (ci := 2) (v := .ref n_pay) (C := RX2) (T := TX2) (N := 8) hx hb hts inlX2 hown hK hP 0 rfl rfl 2 (by decide) (hts (Cond.fieldLink RX9 42 "ChanceRings$Net" "pay" "[I") qw_839) (fun _ h9 => h9) rfl dX9_tell_51 ?_
          refine lv_iload_n hx hb dX9_tell_54 rfl (lv_at hl 0 rfl) ?_
          refine va_iald hx hb hK hP 2 0 rfl rfl (tr_in h_95375 (by decide) (by decide)) dX9_tell_55 ?_
          refine lv_topi (fun v_95874 v_95874_e => ?_)
          have g_v_95874 : v_95874 = n_fpay (x_95370.toInt.toNat) := v_95874_e.trans (congrArg n_fpay rfl)
          have gi_v_95874 := congrArg Int32.toInt g_v_95874
          have h_95875 : 0 ≤ (v_95874 : Int32).toInt ∧ (v_95874 : Int32).toInt ≤ 9 := by have q9 := (hnx x_95370.toInt.toNat (by (first | (clear h_tll h_fk h_fp h_nx h_tk h_tpl hww h_x_95371; omega) | omega))).2.1; have q8 := gi_v_95874; (first | (clear h_tll h_fk h_fp h_nx h_tk h_tpl hww h_x_95371; omega) | omega)
          have hPc := hP.sub (ws' := [(wO9 tl tl_bytes otl_95861), (wI g tl_bytes 0 700 otf_95862)]) [10, 11] rfl
          have hDc := hD.sub (ws' := [(wO9 tl tl_bytes otl_95861), (wI g tl_bytes 0 700 otf_95862)]) [10, 11] (by decide) rfl
          have hFc := va_free (wc := [(wO9 tl tl_bytes otl_95861), (wI g tl_bytes 0 700 otf_95862)]) hD hS hA [10, 11] rfl
          refine va_callv (va_runV (As := [.int v_95874]) (rest := []) ⟨hx, hb, hml, hown, hts⟩ (c_X9_putDigitT l D g H.size tl v_95874 tl_bytes otl_95861 otf_95862 (tr_w h_95875 (by decide) (by decide)) (tr_w hf_95863 (by decide) (by decide))) (cwV 1 hts (tz_gV qw_834 qw_835 qw_836 qw_351 qw_837) rfl rfl rfl (by decide +kernel) ⟨Nat.le_of_ble_eq_true rfl, Nat.le_of_ble_eq_true rfl⟩) ⟨tz_blQ, va_recv hK hPc (ci := 9) (q0 := 0) rfl rfl, tz_preQ hPc hK hDc⟩ rfl rfl hl.1 rfl (lv_room (Nat.le_of_ble_eq_true rfl)) dX9_tell_56 ⟨Nat.le_of_ble_eq_true rfl, Nat.le_of_ble_eq_true rfl⟩) hS (fun q _ h => hFc q h) hFc (fun u t H1 locs ht hvm hw hB hz1 hk1 hS => ?_)
          obtain ⟨otl_95877, otf_95878, hf_95879, hf_95880, hP1, hD1⟩ := hB
          rw [ht] at hP1
          obtain ⟨hP, hD⟩ := va_join (wr := [(wO2 n n_nodes n_kind n_pay n_name n_ways n_held n_targets n_weights), (wI g n_kind 0 12 n_fkind), (wI g n_pay 0 12 n_fpay), (wI g n_name 0 12 n_fname), (wI g n_ways 0 12 n_fways), (wI g n_held 0 12 n_fheld), (wI g n_targets 0 36 n_ftargets), (wI g n_weights 0 36 n_fweights), (wO4 rd tp d rd_kindWords ww fk fp nx tk tpl tv), (wI g rd_kindWords 0 4 kwf)]) (w1 := [(wO9 tl tl_bytes otl_95877), (wI g tl_bytes 0 700 otf_95878)]) hP hD [10, 11] [0, 1, 2, 3, 4, 5, 6, 7, 8, 9] rfl rfl (by decide) (by decide) hk1 hFc hP1 hD1
          generalize H1 = H at hP hS ⊢
          have hP : va_P D vwCl [(wO2 n n_nodes n_kind n_pay n_name n_ways n_held n_targets n_weights), (wI g n_kind 0 12 n_fkind), (wI g n_pay 0 12 n_fpay), (wI g n_name 0 12 n_fname), (wI g n_ways 0 12 n_fways), (wI g n_held 0 12 n_fheld), (wI g n_targets 0 36 n_ftargets), (wI g n_weights 0 36 n_fweights), (wO4 rd tp d rd_kindWords ww fk fp nx tk tpl tv), (wI g rd_kindWords 0 4 kwf), (wO9 tl tl_bytes otl_95877), (wI g tl_bytes 0 700 otf_95878)] H := hP
          have hD : va_D A [(wO2 n n_nodes n_kind n_pay n_name n_ways n_held n_targets n_weights), (wI g n_kind 0 12 n_fkind), (wI g n_pay 0 12 n_fpay), (wI g n_name 0 12 n_fname), (wI g n_ways 0 12 n_fways), (wI g n_held 0 12 n_fheld), (wI g n_targets 0 36 n_ftargets), (wI g n_weights 0 36 n_fweights), (wO4 rd tp d rd_kindWords ww fk fp nx tk tpl tv), (wI g rd_kindWords 0 4 kwf), (wO9 tl tl_bytes otl_95877), (wI g tl_bytes 0 700 otf_95878)] := hD
          refine lv_aload_n hx hb dX9_tell_59 rfl (lv_at hl 1 rfl) ?_
          refine lv_bipush (v := 59) hx hb dX9_tell_60 (by decide) ?_
          have hPc := hP.sub (ws' := [(wO9 tl tl_bytes otl_95877), (wI g tl_bytes 0 700 otf_95878)]) [10, 11] rfl
          have hDc := hD.sub (ws' := [(wO9 tl tl_bytes otl_95877), (wI g tl_bytes 0 700 otf_95878)]) [10, 11] (by decide) rfl
          have hFc := va_free (wc := [(wO9 tl tl_bytes otl_95877), (wI g tl_bytes 0 700 otf_95878)]) hD hS hA [10, 11] rfl
          refine va_callv (va_runV (As := [.int 59]) (rest := []) ⟨hx, hb, hml, hown, hts⟩ (c_X9_putT l D g H.size tl 59 tl_bytes otl_95877 otf_95878 (tr_w hf_95879 (by decide) (by decide))) (cwV 1 hts (tz_gV qw_348 qw_349 qw_350 qw_351 qw_352) rfl rfl rfl (by decide +kernel) ⟨Nat.le_of_ble_eq_true rfl, Nat.le_of_ble_eq_true rfl⟩) ⟨tz_blQ, va_recv hK hPc (ci := 9) (q0 := 0) rfl rfl, tz_preQ hPc hK hDc⟩ rfl rfl hl.1 rfl (lv_room (Nat.le_of_ble_eq_true rfl)) dX9_tell_62 ⟨Nat.le_of_ble_eq_true rfl, Nat.le_of_ble_eq_true rfl⟩) hS (fun q _ h => hFc q h) hFc (fun u t H1 locs ht hvm hw hB hz1 hk1 hS => ?_)
          obtain ⟨otl_95882, otf_95883, hf_95884, hf_95885, hP1, hD1⟩ := hB
          rw [ht] at hP1
          obtain ⟨hP, hD⟩ := va_join (wr := [(wO2 n n_nodes n_kind n_pay n_name n_ways n_held n_targets n_weights), (wI g n_kind 0 12 n_fkind), (wI g n_pay 0 12 n_fpay), (wI g n_name 0 12 n_fname), (wI g n_ways 0 12 n_fways), (wI g n_held 0 12 n_fheld), (wI g n_targets 0 36 n_ftargets), (wI g n_weights 0 36 n_fweights), (wO4 rd tp d rd_kindWords ww fk fp nx tk tpl tv), (wI g rd_kindWords 0 4 kwf)]) (w1 := [(wO9 tl tl_bytes otl_95882), (wI g tl_bytes 0 700 otf_95883)]) hP hD [10, 11] [0, 1, 2, 3, 4, 5, 6, 7, 8, 9] rfl rfl (by decide) (by decide) hk1 hFc hP1 hD1
          generalize H1 = H at hP hS ⊢
          have hP : va_P D vwCl [(wO2 n n_nodes n_kind n_pay n_name n_ways n_held n_targets n_weights), (wI g n_kind 0 12 n_fkind), (wI g n_pay 0 12 n_fpay), (wI g n_name 0 12 n_fname), (wI g n_ways 0 12 n_fways), (wI g n_held 0 12 n_fheld), (wI g n_targets 0 36 n_ftargets), (wI g n_weights 0 36 n_fweights), (wO4 rd tp d rd_kindWords ww fk fp nx tk tpl tv), (wI g rd_kindWords 0 4 kwf), (wO9 tl tl_bytes otl_95882), (wI g tl_bytes 0 700 otf_95883)] H := hP
          have hD : va_D A [(wO2 n n_nodes n_kind n_pay n_name n_ways n_held n_targets n_weights), (wI g n_kind 0 12 n_fkind), (wI g n_pay 0 12 n_fpay), (wI g n_name 0 12 n_fname), (wI g n_ways 0 12 n_fways), (wI g n_held 0 12 n_fheld), (wI g n_targets 0 36 n_ftargets), (wI g n_weights 0 36 n_fweights), (wO4 rd tp d rd_kindWords ww fk fp nx tk tpl tv), (wI g rd_kindWords 0 4 kwf), (wO9 tl tl_bytes otl_95882), (wI g tl_bytes 0 700 otf_95883)] := hD
          obtain ⟨v_95886, v_95886_e⟩ : ∃ y : Int32, y = x_95370 + Int32.ofInt 1 := ⟨_, rfl⟩
          have h_v_95886 : 1 ≤ (v_95886 : Int32).toInt ∧ (v_95886 : Int32).toInt ≤ 12 := by rw [v_95886_e]; exact tr_add h_95375 (⟨by decide, by decide⟩ : 1 ≤ (Int32.ofInt 1 : Int32).toInt ∧ (Int32.ofInt 1 : Int32).toInt ≤ 1) (by decide) (by decide) (by decide) (by decide)
          have q_v_95886 : v_95886.toInt = x_95370.toInt + 1 := by rw [v_95886_e]; exact tr_addE h_95375 (⟨by decide, by decide⟩ : 1 ≤ (Int32.ofInt 1 : Int32).toInt ∧ (Int32.ofInt 1 : Int32).toInt ≤ 1) (by decide) (by decide)
          refine lv_iinc (v := v_95886) (lv' := [(3, .int v_95886), (0, .ref tl), (1, .ref n), (2, .ref rd)]) hx hb dX9_tell_65 hl (k := 0) rfl v_95886_e.symm (by decide) rfl (fun ls hl => ?_)
          refine lv_goto (tgt := 7) hx hb dX9_tell_68 (by decide) ?_
          exact ih_95373 v_95886 otl_95882 otf_95883 H _ ls (tr_w h_v_95886 (by decide) (by decide)) (tr_w hf_95884 (by decide) (by decide)) (by have z_0 := tk_0; (first | (clear h_tll h_fk h_fp h_nx h_tk h_tpl hww h_x_95371; omega) | omega)) (TXS.node hr95373_1 hf_95858 (by rw [absC_k (by (first | (clear h_tll h_fk h_fp h_nx h_tk h_tpl hww h_x_95371; omega) | omega)), gi_v_95853, KWs.at hkw (by (first | (clear h_tll h_fk h_fp h_nx h_tk h_tpl hww h_x_95371; omega) | omega))]; exact congrArg kwn (by have q8 := gi_v_95852; (first | (clear h_tll h_fk h_fp h_nx h_tk h_tpl hww h_x_95371; omega) | omega))) hf_95864 (by rw [absC_n]; exact gi_v_95859) (Or.inl ⟨(by rw [absC_k (by (first | (clear h_tll h_fk h_fp h_nx h_tk h_tpl hww h_x_95371; omega) | omega))]; have q8 := gi_v_95852; have z_0 := tk_0; (first | (clear h_tll h_fk h_fp h_nx h_tk h_tpl hww h_x_95371; omega) | omega)), hf_95880, (by rw [absC_y (by (first | (clear h_tll h_fk h_fp h_nx h_tk h_tpl hww h_x_95371; omega) | omega))]; exact gi_v_95874)⟩) hf_95885 tk_59 (by (first | (clear h_tll h_fk h_fp h_nx h_tk h_tpl hww h_x_95371; omega) | omega))) (by (first | (clear h_tll h_fk h_fp h_nx h_tk h_tpl hww h_x_95371; omega) | omega)) (hP.sub [10, 11, 0, 1, 2, 3, 4, 5, 6, 7, 8, 9] rfl) (hD.sub [10, 11, 0, 1, 2, 3, 4, 5, 6, 7, 8, 9] (by decide) rfl) hS (lv_sub hl [0, 1, 2, 3] rfl)
  exact lp_95373 13 0 0 tlf H _ ls (⟨by decide, by decide⟩ : 0 ≤ (0 : Int32).toInt ∧ (0 : Int32).toInt ≤ 12) (⟨by decide, by decide⟩ : 0 ≤ (0 : Int32).toInt ∧ (0 : Int32).toInt ≤ 700) (by have z_0 := tk_0; (first | (clear h_tll h_n_nodes h_fk h_fp h_nx h_tk h_tpl hww; omega) | omega)) (TXS.nil (Int.le_refl 0)) (by decide) (hP.sub [0, 1, 2, 3, 4, 5, 6, 7, 8, 9, 10, 11] rfl) (hD.sub [0, 1, 2, 3, 4, 5, 6, 7, 8, 9, 10, 11] (by decide) rfl) hS (lv_sub hl [0, 1, 2, 3] rfl)
set_option maxHeartbeats 4000000 in
set_option maxRecDepth 100000 in
theorem c_X11_text (l : Launch) (D : va_G) (g : Nat → ClassId) (sz : Nat) (x : Nat) (tp : Nat) (n : Nat) (d : Nat) (x_images : Nat) (x_kept : Nat) (rd : Nat) (st : Nat) (tl : Nat) (rg : Nat) (sv : Nat) (oc : Nat) (x_tried : Nat) (lf : Nat) (xlk : Int32) (x_sw : Nat) (sww : Nat) (xsb : Int32) (wi : Nat) (n_nodes : Int32) (n_kind : Nat) (n_pay : Nat) (n_name : Nat) (n_ways : Nat) (n_held : Nat) (n_targets : Nat) (n_weights : Nat) (n_fkind : Nat → Int32) (n_fpay : Nat → Int32) (n_fname : Nat → Int32) (n_fways : Nat → Int32) (n_fheld : Nat → Int32) (n_ftargets : Nat → Int32) (n_fweights : Nat → Int32) (rd_kindWords : Nat) (ww : Int32) (fk : Int32) (fp : Int32) (nx : Int32) (tk : Int32) (tpl : Int32) (tv : Int32) (kwf : Nat → Int32) (tl_bytes : Nat) (tll : Int32) (tlf : Nat → Int32) (h_xlk : 0 ≤ (xlk : Int32).toInt ∧ (xlk : Int32).toInt ≤ 1) (h_n_nodes : 0 ≤ (n_nodes : Int32).toInt ∧ (n_nodes : Int32).toInt ≤ 12) (h_n_fkind : ∀ j : Nat, 0 ≤ (n_fkind j).toInt ∧ (n_fkind j).toInt ≤ 3) (h_n_fways : ∀ j : Nat, 0 ≤ (n_fways j).toInt ∧ (n_fways j).toInt ≤ 3) (h_n_fheld : ∀ j : Nat, (-1) ≤ (n_fheld j).toInt ∧ (n_fheld j).toInt ≤ 2) (h_n_ftargets : ∀ j : Nat, 0 ≤ (n_ftargets j).toInt ∧ (n_ftargets j).toInt ≤ 11) (h_fk : 0 ≤ (fk : Int32).toInt ∧ (fk : Int32).toInt ≤ 5) (h_fp : 0 ≤ (fp : Int32).toInt ∧ (fp : Int32).toInt ≤ 440) (h_nx : 0 ≤ (nx : Int32).toInt ∧ (nx : Int32).toInt ≤ 440) (h_tk : 0 ≤ (tk : Int32).toInt ∧ (tk : Int32).toInt ≤ 4) (h_tpl : 0 ≤ (tpl : Int32).toInt ∧ (tpl : Int32).toInt ≤ 440) (h_tll : 0 ≤ (tll : Int32).toInt ∧ (tll : Int32).toInt ≤ 700) (hkw : KWs kwf) (hww : (ww : Int32).toInt = 16819) (hnx : NTX n_nodes n_fpay n_fname n_fways n_ftargets n_fweights) : Met l yX11_text (.code yX11_text cX11_text 1 (some .int) :: wsL_law) ({ frames := 4, cells := 0, slots := 0, locals := 89 }) (va_Pc [.ref x] (fun U => U.heap.size = sz ∧ va_P D vwCl [(wO11 x tp n d x_images x_kept rd st tl rg sv oc x_tried lf xlk x_sw sww xsb wi), (wO2 n n_nodes n_kind n_pay n_name n_ways n_held n_targets n_weights), (wI g n_kind 0 12 n_fkind), (wI g n_pay 0 12 n_fpay), (wI g n_name 0 12 n_fname), (wI g n_ways 0 12 n_fways), (wI g n_held 0 12 n_fheld), (wI g n_targets 0 36 n_ftargets), (wI g n_weights 0 36 n_fweights), (wO4 rd tp d rd_kindWords ww fk fp nx tk tpl tv), (wI g rd_kindWords 0 4 kwf), (wO9 tl tl_bytes tll), (wI g tl_bytes 0 700 tlf)] U.heap ∧ va_K D vwCl (TY g) U ∧ va_D (fun _ => True) [(wO11 x tp n d x_images x_kept rd st tl rg sv oc x_tried lf xlk x_sw sww xsb wi), (wO2 n n_nodes n_kind n_pay n_name n_ways n_held n_targets n_weights), (wI g n_kind 0 12 n_fkind), (wI g n_pay 0 12 n_fpay), (wI g n_name 0 12 n_fname), (wI g n_ways 0 12 n_fways), (wI g n_held 0 12 n_fheld), (wI g n_targets 0 36 n_ftargets), (wI g n_weights 0 36 n_fweights), (wO4 rd tp d rd_kindWords ww fk fp nx tk tpl tv), (wI g rd_kindWords 0 4 kwf), (wO9 tl tl_bytes tll), (wI g tl_bytes 0 700 tlf)])) (va_Qi (fun (r u : Int32) => u = r ∧ (True)) (fun r t => ∃ ztll : Int32, ∃ ztlf : Nat → Int32, (0 ≤ (ztll : Int32).toInt ∧ (ztll : Int32).toInt ≤ 700) ∧ (TXS tlf ztlf 0 (ztll : Int32).toInt (TXT (absC n_nodes n_fkind n_fpay n_fname n_fways n_fheld n_ftargets n_fweights))) ∧ ((r : Int32).toInt = (ztll : Int32).toInt) ∧ va_P D vwCl [(wO11 x tp n d x_images x_kept rd st tl rg sv oc x_tried lf xlk x_sw sww xsb wi), (wO2 n n_nodes n_kind n_pay n_name n_ways n_held n_targets n_weights), (wI g n_kind 0 12 n_fkind), (wI g n_pay 0 12 n_fpay), (wI g n_name 0 12 n_fname), (wI g n_ways 0 12 n_fways), (wI g n_held 0 12 n_fheld), (wI g n_targets 0 36 n_ftargets), (wI g n_weights 0 36 n_fweights), (wO4 rd tp d rd_kindWords ww fk fp nx tk tpl tv), (wI g rd_kindWords 0 4 kwf), (wO9 tl tl_bytes ztll), (wI g tl_bytes 0 700 ztlf)] t.heap ∧ va_D (va_A [(wO11 x tp n d x_images x_kept rd st tl rg sv oc x_tried lf xlk x_sw sww xsb wi), (wO2 n n_nodes n_kind n_pay n_name n_ways n_held n_targets n_weights), (wI g n_kind 0 12 n_fkind), (wI g n_pay 0 12 n_fpay), (wI g n_name 0 12 n_fname), (wI g n_ways 0 12 n_fways), (wI g n_held 0 12 n_fheld), (wI g n_targets 0 36 n_ftargets), (wI g n_weights 0 36 n_fweights), (wO4 rd tp d rd_kindWords ww fk fp nx tk tpl tv), (wI g rd_kindWords 0 4 kwf), (wO9 tl tl_bytes tll), (wI g tl_bytes 0 700 tlf)] sz) [(wO11 x tp n d x_images x_kept rd st tl rg sv oc x_tried lf xlk x_sw sww xsb wi), (wO2 n n_nodes n_kind n_pay n_name n_ways n_held n_targets n_weights), (wI g n_kind 0 12 n_fkind), (wI g n_pay 0 12 n_fpay), (wI g n_name 0 12 n_fname), (wI g n_ways 0 12 n_fways), (wI g n_held 0 12 n_fheld), (wI g n_targets 0 36 n_ftargets), (wI g n_weights 0 36 n_fweights), (wO4 rd tp d rd_kindWords ww fk fp nx tk tpl tv), (wI g rd_kindWords 0 4 kwf), (wO9 tl tl_bytes ztll), (wI g tl_bytes 0 700 ztlf)]) (va_A [(wO11 x tp n d x_images x_kept rd st tl rg sv oc x_tried lf xlk x_sw sww xsb wi), (wO2 n n_nodes n_kind n_pay n_name n_ways n_held n_targets n_weights), (wI g n_kind 0 12 n_fkind), (wI g n_pay 0 12 n_fpay), (wI g n_name 0 12 n_fname), (wI g n_ways 0 12 n_fways), (wI g n_held 0 12 n_fheld), (wI g n_targets 0 36 n_ftargets), (wI g n_weights 0 36 n_fweights), (wO4 rd tp d rd_kindWords ww fk fp nx tk tpl tv), (wI g rd_kindWords 0 4 kwf), (wO9 tl tl_bytes tll), (wI g tl_bytes 0 700 tlf)] sz)) 0 0 (va_A [(wO11 x tp n d x_images x_kept rd st tl rg sv oc x_tried lf xlk x_sw sww xsb wi), (wO2 n n_nodes n_kind n_pay n_name n_ways n_held n_targets n_weights), (wI g n_kind 0 12 n_fkind), (wI g n_pay 0 12 n_fpay), (wI g n_name 0 12 n_fname), (wI g n_ways 0 12 n_fways), (wI g n_held 0 12 n_fheld), (wI g n_targets 0 36 n_ftargets), (wI g n_weights 0 36 n_fweights), (wO4 rd tp d rd_kindWords ww fk fp nx tk tpl tv), (wI g rd_kindWords 0 4 kwf), (wO9 tl tl_bytes tll), (wI g tl_bytes 0 700 tlf)] sz) := by
  refine Met.ofW (cc := cX11_text) (maxL := 1) (ret := (some .int)) (by decide) rfl ?_
  intro p e s m args below meth c s₁ B hml hv
  obtain ⟨ha, hsz, hP, hK, hD0⟩ := hv
  have hx := B.exec
  have hb := B.bytes
  have hr := B.returns
  have hts0 := atoms_spec (ws := (.code yX11_text cX11_text 1 (some .int) :: wsL_law)) B.pre
  have hts : ∀ w ∈ wsL_law, w.before args s = true := fun w h => hts0 w (List.mem_cons_of_mem _ h)
  have hown : s.vm.findClass RX11 = some m.cls := findClass_of_methodNamed B.named
  have hlocks := B.notSynchronized
  subst hsz
  have hD := hD0.self (sz := s.heap.size)
  generalize hAe : va_A [(wO11 x tp n d x_images x_kept rd st tl rg sv oc x_tried lf xlk x_sw sww xsb wi), (wO2 n n_nodes n_kind n_pay n_name n_ways n_held n_targets n_weights), (wI g n_kind 0 12 n_fkind), (wI g n_pay 0 12 n_fpay), (wI g n_name 0 12 n_fname), (wI g n_ways 0 12 n_fways), (wI g n_held 0 12 n_fheld), (wI g n_targets 0 36 n_ftargets), (wI g n_weights 0 36 n_fweights), (wO4 rd tp d rd_kindWords ww fk fp nx tk tpl tv), (wI g rd_kindWords 0 4 kwf), (wO9 tl tl_bytes tll), (wI g tl_bytes 0 700 tlf)] s.heap.size = A at hD ⊢
  have hA : ∀ q : Nat, s.heap.size ≤ q → A q := fun q h => by rw [← hAe]; exact Or.inr h
  have hS : va_S A s.heap s.heap [] := va_S.rf
  have hP : va_P D vwCl [(wO11 x tp n d x_images x_kept rd st tl rg sv oc x_tried lf xlk x_sw sww xsb wi), (wO2 n n_nodes n_kind n_pay n_name n_ways n_held n_targets n_weights), (wI g n_kind 0 12 n_fkind), (wI g n_pay 0 12 n_fpay), (wI g n_name 0 12 n_fname), (wI g n_ways 0 12 n_fways), (wI g n_held 0 12 n_fheld), (wI g n_targets 0 36 n_ftargets), (wI g n_weights 0 36 n_fweights), (wO4 rd tp d rd_kindWords ww fk fp nx tk tpl tv), (wI g rd_kindWords 0 4 kwf), (wO9 tl tl_bytes tll), (wI g tl_bytes 0 700 tlf)] s.heap := hP
  refine W.eq (g2 := entryFrame m ([.ref x] : List Value).toArray 1) (by rw [ha]) ?_
  have hl := lv_entry ([.ref x]) (n := 1) (Nat.le_of_ble_eq_true rfl)
  rw [lg_entry_eq]
  generalize (lg_sl ([.ref x]) ++ List.replicate (1 - (lg_sl ([.ref x])).length) Slot.unset).toArray = ls at hl ⊢
  have hl : lv_has ls 1 [(0, .ref x)] := hl
  refine lv_aload_n hx hb dX11_text_0 rfl (lv_at hl 0 rfl) ?_
  refine va_get (D := D) (ci := 11) (v := .ref tl) (C := RX11) (T := TX11) (N := 18) hx hb hts inlX11 hown hK hP 0 rfl rfl 7 (by decide) (hts (Cond.fieldLink RX11 53 "ChanceRings" "telling" "LChanceRings$Telling;") qw_840) (fun _ h9 => h9) rfl dX11_text_1 ?_
  refine lv_aload_n hx hb dX11_text_4 rfl (lv_at hl 0 rfl) ?_
  refine va_get (D := D) (ci := 11) (v := .ref n) (C := RX11) (T := TX11) (N := 18) hx hb hts inlX11 hown hK hP 0 rfl rfl 1 (by decide) (hts (Cond.fieldLink RX11 19 "ChanceRings" "net" "LChanceRings$Net;") qw_702) (fun _ h9 => h9) rfl dX11_text_5 ?_
  refine lv_aload_n hx hb dX11_text_8 rfl (lv_at hl 0 rfl) ?_
  refine va_get (D := D) (ci := 11) (v := .ref rd) (C := RX11) (T := TX11) (N := 18) hx hb hts inlX11 hown hK hP 0 rfl rfl 5 (by decide) (hts (Cond.fieldLink RX11 39 "ChanceRings" "reader" "LChanceRings$Reader;") qw_696) (fun _ h9 => h9) rfl dX11_text_9 ?_
  have hPc := hP.sub (ws' := [(wO9 tl tl_bytes tll), (wI g tl_bytes 0 700 tlf), (wO2 n n_nodes n_kind n_pay n_name n_ways n_held n_targets n_weights), (wI g n_kind 0 12 n_fkind), (wI g n_pay 0 12 n_fpay), (wI g n_name 0 12 n_fname), (wI g n_ways 0 12 n_fways), (wI g n_held 0 12 n_fheld), (wI g n_targets 0 36 n_ftargets), (wI g n_weights 0 36 n_fweights), (wO4 rd tp d rd_kindWords ww fk fp nx tk tpl tv), (wI g rd_kindWords 0 4 kwf)]) [11, 12, 1, 2, 3, 4, 5, 6, 7, 8, 9, 10] rfl
  have hDc := hD.sub (ws' := [(wO9 tl tl_bytes tll), (wI g tl_bytes 0 700 tlf), (wO2 n n_nodes n_kind n_pay n_name n_ways n_held n_targets n_weights), (wI g n_kind 0 12 n_fkind), (wI g n_pay 0 12 n_fpay), (wI g n_name 0 12 n_fname), (wI g n_ways 0 12 n_fways), (wI g n_held 0 12 n_fheld), (wI g n_targets 0 36 n_ftargets), (wI g n_weights 0 36 n_fweights), (wO4 rd tp d rd_kindWords ww fk fp nx tk tpl tv), (wI g rd_kindWords 0 4 kwf)]) [11, 12, 1, 2, 3, 4, 5, 6, 7, 8, 9, 10] (by decide) rfl
  have hFc := va_free (wc := [(wO9 tl tl_bytes tll), (wI g tl_bytes 0 700 tlf), (wO2 n n_nodes n_kind n_pay n_name n_ways n_held n_targets n_weights), (wI g n_kind 0 12 n_fkind), (wI g n_pay 0 12 n_fpay), (wI g n_name 0 12 n_fname), (wI g n_ways 0 12 n_fways), (wI g n_held 0 12 n_fheld), (wI g n_targets 0 36 n_ftargets), (wI g n_weights 0 36 n_fweights), (wO4 rd tp d rd_kindWords ww fk fp nx tk tpl tv), (wI g rd_kindWords 0 4 kwf)]) hD hS hA [11, 12, 1, 2, 3, 4, 5, 6, 7, 8, 9, 10] rfl
  refine va_callv (va_runV (As := [.ref n, .ref rd]) (rest := []) ⟨hx, hb, hml, hown, hts⟩ (c_X9_tellT l D g s.heap.size tl n rd tl_bytes tll tlf n_nodes n_kind n_pay n_name n_ways n_held n_targets n_weights n_fkind n_fpay n_fname n_fways n_fheld n_ftargets n_fweights tp d rd_kindWords ww fk fp nx tk tpl tv kwf (tr_w h_tll (by decide) (by decide)) (tr_w h_n_nodes (by decide) (by decide)) (tr_wa h_n_fkind (by decide) (by decide)) (tr_wa h_n_fways (by decide) (by decide)) (tr_wa h_n_fheld (by decide) (by decide)) (tr_wa h_n_ftargets (by decide) (by decide)) (tr_w h_fk (by decide) (by decide)) (tr_w h_fp (by decide) (by decide)) (tr_w h_nx (by decide) (by decide)) (tr_w h_tk (by decide) (by decide)) (tr_w h_tpl (by decide) (by decide)) hkw hww hnx) (cwV 2 hts (tz_gV qw_841 qw_842 qw_843 qw_351 qw_844) rfl rfl rfl (by decide +kernel) ⟨Nat.le_of_ble_eq_true rfl, Nat.le_of_ble_eq_true rfl⟩) ⟨tz_blQ, va_recv hK hPc (ci := 9) (q0 := 0) rfl rfl, tz_preQ hPc hK hDc⟩ rfl rfl hl.1 rfl (lv_room (Nat.le_of_ble_eq_true rfl)) dX11_text_12 ⟨Nat.le_of_ble_eq_true rfl, Nat.le_of_ble_eq_true rfl⟩) hS (fun q _ h => hFc q h) hFc (fun u t H1 locs ht hvm hw hB hz1 hk1 hS => ?_)
  obtain ⟨otl_95888, otf_95889, hf_95890, hf_95891, hP1, hD1⟩ := hB
  rw [ht] at hP1
  obtain ⟨hP, hD⟩ := va_join (wr := [(wO11 x tp n d x_images x_kept rd st tl rg sv oc x_tried lf xlk x_sw sww xsb wi)]) (w1 := [(wO9 tl tl_bytes otl_95888), (wI g tl_bytes 0 700 otf_95889), (wO2 n n_nodes n_kind n_pay n_name n_ways n_held n_targets n_weights), (wI g n_kind 0 12 n_fkind), (wI g n_pay 0 12 n_fpay), (wI g n_name 0 12 n_fname), (wI g n_ways 0 12 n_fways), (wI g n_held 0 12 n_fheld), (wI g n_targets 0 36 n_ftargets), (wI g n_weights 0 36 n_fweights), (wO4 rd tp d rd_kindWords ww fk fp nx tk tpl tv), (wI g rd_kindWords 0 4 kwf)]) hP hD [11, 12, 1, 2, 3, 4, 5, 6, 7, 8, 9, 10] [0] rfl rfl (by decide) (by decide) hk1 hFc hP1 hD1
  generalize H1 = H at hP hS ⊢
  have hP : va_P D vwCl [(wO11 x tp n d x_images x_kept rd st tl rg sv oc x_tried lf xlk x_sw sww xsb wi), (wO9 tl tl_bytes otl_95888), (wI g tl_bytes 0 700 otf_95889), (wO2 n n_nodes n_kind n_pay n_name n_ways n_held n_targets n_weights), (wI g n_kind 0 12 n_fkind), (wI g n_pay 0 12 n_fpay), (wI g n_name 0 12 n_fname), (wI g n_ways 0 12 n_fways), (wI g n_held 0 12 n_fheld), (wI g n_targets 0 36 n_ftargets), (wI g n_weights 0 36 n_fweights), (wO4 rd tp d rd_kindWords ww fk fp nx tk tpl tv), (wI g rd_kindWords 0 4 kwf)] H := hP
  have hD : va_D A [(wO11 x tp n d x_images x_kept rd st tl rg sv oc x_tried lf xlk x_sw sww xsb wi), (wO9 tl tl_bytes otl_95888), (wI g tl_bytes 0 700 otf_95889), (wO2 n n_nodes n_kind n_pay n_name n_ways n_held n_targets n_weights), (wI g n_kind 0 12 n_fkind), (wI g n_pay 0 12 n_fpay), (wI g n_name 0 12 n_fname), (wI g n_ways 0 12 n_fways), (wI g n_held 0 12 n_fheld), (wI g n_targets 0 36 n_ftargets), (wI g n_weights 0 36 n_fweights), (wO4 rd tp d rd_kindWords ww fk fp nx tk tpl tv), (wI g rd_kindWords 0 4 kwf)] := hD
  refine lv_aload_n hx hb dX11_text_15 rfl (lv_at hl 0 rfl) ?_
  refine va_get (D := D) (ci := 11) (v := .ref tl) (C := RX11) (T := TX11) (N := 18) hx hb hts inlX11 hown hK hP 0 rfl rfl 7 (by decide) (hts (Cond.fieldLink RX11 53 "ChanceRings" "telling" "LChanceRings$Telling;") qw_840) (fun _ h9 => h9) rfl dX11_text_16 ?_
  refine va_get (D := D) (ci := 9) (v := .int otl_95888) (C := RX9) (T := TX9) (N := 2) hx hb hts inlX9 hown hK hP 1 rfl rfl 1 (by decide) (hts (Cond.fieldLink RX11 266 "ChanceRings$Telling" "length" "I") qw_845) (fun _ h9 => h9) rfl dX11_text_19 ?_
  have hP9 := hP.sub (ws' := [(wO11 x tp n d x_images x_kept rd st tl rg sv oc x_tried lf xlk x_sw sww xsb wi), (wO2 n n_nodes n_kind n_pay n_name n_ways n_held n_targets n_weights), (wI g n_kind 0 12 n_fkind), (wI g n_pay 0 12 n_fpay), (wI g n_name 0 12 n_fname), (wI g n_ways 0 12 n_fways), (wI g n_held 0 12 n_fheld), (wI g n_targets 0 36 n_ftargets), (wI g n_weights 0 36 n_fweights), (wO4 rd tp d rd_kindWords ww fk fp nx tk tpl tv), (wI g rd_kindWords 0 4 kwf), (wO9 tl tl_bytes otl_95888), (wI g tl_bytes 0 700 otf_95889)]) [0, 3, 4, 5, 6, 7, 8, 9, 10, 11, 12, 1, 2] rfl
  have hD9 := hD.sub (ws' := [(wO11 x tp n d x_images x_kept rd st tl rg sv oc x_tried lf xlk x_sw sww xsb wi), (wO2 n n_nodes n_kind n_pay n_name n_ways n_held n_targets n_weights), (wI g n_kind 0 12 n_fkind), (wI g n_pay 0 12 n_fpay), (wI g n_name 0 12 n_fname), (wI g n_ways 0 12 n_fways), (wI g n_held 0 12 n_fheld), (wI g n_targets 0 36 n_ftargets), (wI g n_weights 0 36 n_fweights), (wO4 rd tp d rd_kindWords ww fk fp nx tk tpl tv), (wI g rd_kindWords 0 4 kwf), (wO9 tl tl_bytes otl_95888), (wI g tl_bytes 0 700 otf_95889)]) [0, 3, 4, 5, 6, 7, 8, 9, 10, 11, 12, 1, 2] (by decide) rfl
  exact W.iret (v := otl_95888) hx hb hr (fun t ht hW => ⟨⟨otl_95888, otl_95888, rfl, ⟨rfl, trivial⟩, otl_95888, otf_95889, (tr_w hf_95890 (by decide) (by decide)), hf_95891, rfl, by rw [ht]; exact hP9, hD9⟩, hS.F ht⟩) hS.2.2 dX11_text_22
set_option maxHeartbeats 4000000 in
set_option maxRecDepth 100000 in
theorem c_X11_byteAt (l : Launch) (D : va_G) (g : Nat → ClassId) (x : Nat) (p0 : Int32) (tp : Nat) (n : Nat) (d : Nat) (x_images : Nat) (x_kept : Nat) (rd : Nat) (st : Nat) (tl : Nat) (rg : Nat) (sv : Nat) (oc : Nat) (x_tried : Nat) (lf : Nat) (xlk : Int32) (x_sw : Nat) (sww : Nat) (xsb : Int32) (wi : Nat) (tl_bytes : Nat) (tll : Int32) (tlf : Nat → Int32) (h_xlk : 0 ≤ (xlk : Int32).toInt ∧ (xlk : Int32).toInt ≤ 1) (h_tll : 0 ≤ (tll : Int32).toInt ∧ (tll : Int32).toInt ≤ 700) : Met l yX11_byteAt (.code yX11_byteAt cX11_byteAt 2 (some .int) :: wsL_law) ({ frames := 0, cells := 0, slots := 0, locals := 0 }) (va_Pc [.ref x, .int p0] (fun U => va_P D vwCl [(wO11 x tp n d x_images x_kept rd st tl rg sv oc x_tried lf xlk x_sw sww xsb wi), (wO9 tl tl_bytes tll), (wI g tl_bytes 0 700 tlf)] U.heap ∧ va_K D vwCl (TY g) U)) (vp_Si (fun r => (True) ∧ (((0 ≤ (p0 : Int32).toInt ∧ (p0 : Int32).toInt < (tll : Int32).toInt) → (r : Int32).toInt = (tlf (p0 : Int32).toInt.toNat).toInt) ∧ (¬ (0 ≤ (p0 : Int32).toInt ∧ (p0 : Int32).toInt < (tll : Int32).toInt) → (r : Int32).toInt = -1)))) 0 0 (fun _ => False) := by
  refine Met.ofW (cc := cX11_byteAt) (maxL := 2) (ret := (some .int)) (by decide) rfl ?_
  intro p e s m args below meth c s₁ B hml hv
  obtain ⟨ha, hP, hK⟩ := hv
  have hx := B.exec
  have hb := B.bytes
  have hr := B.returns
  have hts0 := atoms_spec (ws := (.code yX11_byteAt cX11_byteAt 2 (some .int) :: wsL_law)) B.pre
  have hts : ∀ w ∈ wsL_law, w.before args s = true := fun w h => hts0 w (List.mem_cons_of_mem _ h)
  have hown : s.vm.findClass RX11 = some m.cls := findClass_of_methodNamed B.named
  have hlocks := B.notSynchronized
  have hP : va_P D vwCl [(wO11 x tp n d x_images x_kept rd st tl rg sv oc x_tried lf xlk x_sw sww xsb wi), (wO9 tl tl_bytes tll), (wI g tl_bytes 0 700 tlf)] s.heap := hP
  refine W.eq (g2 := entryFrame m ([.ref x, .int p0] : List Value).toArray 2) (by rw [ha]) ?_
  have hl := lv_entry ([.ref x, .int p0]) (n := 2) (Nat.le_of_ble_eq_true rfl)
  rw [lg_entry_eq]
  generalize (lg_sl ([.ref x, .int p0]) ++ List.replicate (2 - (lg_sl ([.ref x, .int p0])).length) Slot.unset).toArray = ls at hl ⊢
  have hl : lv_has ls 2 [(0, .ref x), (1, .int p0)] := hl
  refine lv_iload_n hx hb dX11_byteAt_0 rfl (lv_at hl 1 rfl) ?_
  refine lv_if_lt (tgt := 27) hx hb dX11_byteAt_1 (by decide) (fun c_95892 => ?_) (fun c_95892 => ?_)
  · skip
    have kk_0 := tk_0
    have c_95892_i := Int32.lt_iff_toInt_lt.mp c_95892
    have h_95893 : (-2147483648) ≤ (p0 : Int32).toInt ∧ (p0 : Int32).toInt ≤ (-1) := nr_lt_l (tr_any p0) (⟨by decide, by decide⟩ : 0 ≤ (0 : Int32).toInt ∧ (0 : Int32).toInt ≤ 0) c_95892_i (by decide) (by decide)
    refine lv_iconst (v := (-1)) hx hb dX11_byteAt_27 (by decide) ?_
    exact W.iret (v := (-1)) hx hb hr (fun t ht hW => ⟨(-1), rfl, ⟨trivial, ⟨fun h9 => absurd h9 (by have z_0 := tk_0; have z_1 := tk_1; have z_2 := tk_2; have z_3 := tk_3; have z_4 := tk_4; have z_9 := tk_9; have z_m := tk_m1; (first | (clear h_xlk h_tll c_95892_i h_95893; omega) | omega)), fun _ => tk_m1⟩⟩, ht⟩) (fun _ h => nomatch h) dX11_byteAt_28
  · skip
    have kk_0 := tk_0
    have c_95892_i := Int32.le_iff_toInt_le.mp (Int32.not_lt.mp c_95892)
    have h_95894 : 0 ≤ (p0 : Int32).toInt ∧ (p0 : Int32).toInt ≤ 2147483647 := nr_le_r (⟨by decide, by decide⟩ : 0 ≤ (0 : Int32).toInt ∧ (0 : Int32).toInt ≤ 0) (tr_any p0) c_95892_i (by decide) (by decide)
    refine lv_iload_n hx hb dX11_byteAt_4 rfl (lv_at hl 1 rfl) ?_
    refine lv_aload_n hx hb dX11_byteAt_5 rfl (lv_at hl 0 rfl) ?_
    refine va_get (D := D) (ci := 11) (v := .ref tl) (C := RX11) (T := TX11) (N := 18) hx hb hts inlX11 hown hK hP 0 rfl rfl 7 (by decide) (hts (Cond.fieldLink RX11 53 "ChanceRings" "telling" "LChanceRings$Telling;") qw_840) (fun _ h9 => h9) rfl dX11_byteAt_6 ?_
    refine va_get (D := D) (ci := 9) (v := .int tll) (C := RX9) (T := TX9) (N := 2) hx hb hts inlX9 hown hK hP 1 rfl rfl 1 (by decide) (hts (Cond.fieldLink RX11 266 "ChanceRings$Telling" "length" "I") qw_845) (fun _ h9 => h9) rfl dX11_byteAt_9 ?_
    refine lv_icmp_ge (tgt := 27) hx hb dX11_byteAt_12 (by decide) (fun c_95895 => ?_) (fun c_95895 => ?_)
    · skip
      have c_95895_i := Int32.le_iff_toInt_le.mp c_95895
      refine lv_iconst (v := (-1)) hx hb dX11_byteAt_27 (by decide) ?_
      exact W.iret (v := (-1)) hx hb hr (fun t ht hW => ⟨(-1), rfl, ⟨trivial, ⟨fun h9 => absurd h9 (by have z_0 := tk_0; have z_1 := tk_1; have z_2 := tk_2; have z_3 := tk_3; have z_4 := tk_4; have z_9 := tk_9; have z_m := tk_m1; (first | (clear h_xlk h_tll c_95892_i h_95894 c_95895_i; omega) | omega)), fun _ => tk_m1⟩⟩, ht⟩) (fun _ h => nomatch h) dX11_byteAt_28
    · skip
      have c_95895_i := Int32.lt_iff_toInt_lt.mp (Int32.not_le.mp c_95895)
      have h_95896 : 0 ≤ (p0 : Int32).toInt ∧ (p0 : Int32).toInt ≤ 699 := nr_lt_l h_95894 h_tll c_95895_i (by decide) (by decide)
      have h_95897 : 1 ≤ (tll : Int32).toInt ∧ (tll : Int32).toInt ≤ 700 := nr_lt_r h_95894 h_tll c_95895_i (by decide) (by decide)
      refine lv_aload_n hx hb dX11_byteAt_15 rfl (lv_at hl 0 rfl) ?_
      refine va_get (D := D) (ci := 11) (v := .ref tl) (C := RX11) (T := TX11) (N := 18) hx hb hts inlX11 hown hK hP 0 rfl rfl 7 (by decide) (hts (Cond.fieldLink RX11 53 "ChanceRings" "telling" "LChanceRings$Telling;") qw_840) (fun _ h9 => h9) rfl dX11_byteAt_16 ?_
      refine va_get (D := D) (ci := 9) (v := .ref tl_bytes) (C := RX9) (T := TX9) (N := 2) hx hb hts inlX9 hown hK hP 1 rfl rfl 0 (by decide) (hts (Cond.fieldLink RX11 267 "ChanceRings$Telling" "bytes" "[I") qw_846) (fun _ h9 => h9) rfl dX11_byteAt_19 ?_
      refine lv_iload_n hx hb dX11_byteAt_22 rfl (lv_at hl 1 rfl) ?_
      refine va_iald hx hb hK hP 2 0 rfl rfl (tr_in h_95896 (by decide) (by decide)) dX11_byteAt_23 ?_
      refine lv_topi (fun v_95898 v_95898_e => ?_)
      have g_v_95898 : v_95898 = tlf (p0.toInt.toNat) := v_95898_e.trans (congrArg tlf rfl)
      have gi_v_95898 := congrArg Int32.toInt g_v_95898
      refine lv_goto (tgt := 28) hx hb dX11_byteAt_24 (by decide) ?_
      exact W.iret (v := v_95898) hx hb hr (fun t ht hW => ⟨v_95898, rfl, ⟨trivial, ⟨fun _ => congrArg Int32.toInt v_95898_e, fun h9 => absurd (by have z_0 := tk_0; have z_1 := tk_1; have z_2 := tk_2; have z_3 := tk_3; have z_4 := tk_4; have z_9 := tk_9; have z_m := tk_m1; omega) h9⟩⟩, ht⟩) (fun _ h => nomatch h) dX11_byteAt_28
/-- two tapes with the same bytes, below a length -/
def TT (f g : Nat → Int32) (z : Int) : Prop := ∀ j : Nat, (j : Int) < z → (f j).toInt % 256 = (g j).toInt % 256
/-- a constant text: its object, its bytes, the statics that its methods read; nothing of it is written -/
def tStr (sa sv N : Nat) (f : Nat → Int32) (A : Nat → Prop) (U : State) (H : Heap) : Prop := va_Z "java/lang/String" "COMPACT_STRINGS" "Z" (.int 1) A U H ∧ va_Zq "jdk/internal/util/Preconditions" "SIOOBE_FORMATTER" "Ljava/util/function/BiFunction;" A U H ∧ va_O "java/lang/String" sa A U H ∧ va_OF "java/lang/String" "coder" "B" (.int 0) sa A U H ∧ va_OF "java/lang/String" "value" "[B" (.ref sv) sa A U H ∧ va_T .byte sv N (fun j => .int (f j)) A U H
theorem tStr.kept {sa sv N : Nat} {f : Nat → Int32} {A : Nat → Prop} {U : State} {H H1 : Heap} (h : tStr sa sv N f A U H) (hq : ∀ a : Nat, a < H.size → ¬ A a → H1[a]? = H[a]?) : tStr sa sv N f A U H1 :=
  ⟨h.1.kept hq, h.2.1.kept hq, h.2.2.1.kept hq, h.2.2.2.1.kept hq, h.2.2.2.2.1.kept hq, h.2.2.2.2.2.kept hq⟩
theorem tStr.narrow {sa sv N : Nat} {f : Nat → Int32} {A B : Nat → Prop} {U : State} {H : Heap} (h : tStr sa sv N f A U H) (hq : ∀ q, B q → A q) : tStr sa sv N f B U H :=
  ⟨h.1.narrow hq, h.2.1.narrow hq, h.2.2.1.narrow hq, h.2.2.2.1.narrow hq, h.2.2.2.2.1.narrow hq, h.2.2.2.2.2.narrow hq⟩
/-- what the constructors need beside the good words: arrays of nets, of rows; links into the nest; the five constant texts -/
def ZI (sa sv : Nat → Nat) (ff : Nat → Nat → Int32) (A : Nat → Prop) (U : State) (H : Heap) : Prop := va_AO RX2 U ∧ va_AOA .long U ∧ va_Nw (.methodLinkNest RX0 11 yX1_init "ChanceRings") U ∧ va_Nw (.methodLinkNest RX3 17 yX10_init "ChanceRings") U ∧ va_Nw (.methodLinkNest RX4 21 yX11_pack "ChanceRings") U ∧ va_Nw (.methodLinkNest RX11 9 yX8_init "ChanceRings") U ∧ va_Nw (.methodLinkNest RX11 18 yX2_init "ChanceRings") U ∧ va_Nw (.methodLinkNest RX11 45 yX7_init "ChanceRings") U ∧ va_Nw (.methodLinkNest RX11 52 yX9_init "ChanceRings") U ∧ va_Nw (.methodLinkNest RX11 88 yX10_init "ChanceRings") U ∧ (vk_R RX4 19 "end" (sa 0) U ∧ tStr (sa 0) (sv 0) 3 (ff 0) A U H) ∧ (vk_R RX4 25 "max" (sa 1) U ∧ tStr (sa 1) (sv 1) 3 (ff 1) A U H) ∧ (vk_R RX4 27 "min" (sa 2) U ∧ tStr (sa 2) (sv 2) 3 (ff 2) A U H) ∧ (vk_R RX4 29 "chance" (sa 3) U ∧ tStr (sa 3) (sv 3) 6 (ff 3) A U H) ∧ (vk_R RX4 35 "way" (sa 4) U ∧ tStr (sa 4) (sv 4) 3 (ff 4) A U H)
theorem ZI.kept {sa sv : Nat → Nat} {ff : Nat → Nat → Int32} {A B : Nat → Prop} {s : State} {H0 H : Heap} {locs : List Loc} (h : ZI sa sv ff A s H0) (hS : va_S A H0 H locs) (hB : ∀ q, B q → A q) : ZI sa sv ff B s H := by
  obtain ⟨h0, h1, h2, h3, h4, h5, h6, h7, h8, h9, ⟨h10, h10b⟩, ⟨h11, h11b⟩, ⟨h12, h12b⟩, ⟨h13, h13b⟩, ⟨h14, h14b⟩⟩ := h
  exact ⟨h0, h1, h2, h3, h4, h5, h6, h7, h8, h9, ⟨h10, (h10b.kept hS.2.1).narrow hB⟩, ⟨h11, (h11b.kept hS.2.1).narrow hB⟩, ⟨h12, (h12b.kept hS.2.1).narrow hB⟩, ⟨h13, (h13b.kept hS.2.1).narrow hB⟩, ⟨h14, (h14b.kept hS.2.1).narrow hB⟩⟩
set_option maxHeartbeats 4000000 in
set_option maxRecDepth 100000 in
def LI (D : va_G) (g : Nat → ClassId) (A : Nat → Prop) (H : Heap) (x mm oa tp n d x_images x_kept rd st tl rg sv oc x_tried lf x_sw sww wi tp_bytes n_kind n_pay n_name n_ways n_held n_targets n_weights d_kind d_pay d_name d_ways d_held d_targets d_weights i0 i1 i0_kind i0_pay i0_name i0_ways i0_held i0_targets i0_weights i1_kind i1_pay i1_name i1_ways i1_held i1_targets i1_weights rd_kindWords st_what st_node st_index st_before tl_bytes co sv_keep sv_scaled eq co_place eq_rows eq_right oc_plan ow ol oc_reach oc_ringBits ow_part ol_part lf_part sww_part wi_part m_s m_spare m_kept m_undone m_triedWay m_isKept m_tape m_letters m_choice m_row m_up m_low m_m m_bestUp m_bestLow m_replyUp m_replyLow m_worthUp m_worthLow m_bestWay m_told : Nat) (rr rm : Nat → Nat) : Prop := ∃ (vi : Nat → Int32) (vl : Nat → Int64) (va : Nat → Nat → Int32) (vb : Nat → Nat → Int64) (ct cm : Nat → Nat → Int64), va_P D vwCl ((wO11 x tp n d x_images x_kept rd st tl rg sv oc x_tried lf (vi 0) x_sw sww (vi 1) wi) :: (wO8 tp tp_bytes (vi 2)) :: (wI g tp_bytes 0 440 (va (0))) :: (wO2 n (vi 3) n_kind n_pay n_name n_ways n_held n_targets n_weights) :: (wI g n_kind 0 12 (va (1))) :: (wI g n_pay 0 12 (va (2))) :: (wI g n_name 0 12 (va (3))) :: (wI g n_ways 0 12 (va (4))) :: (wI g n_held 0 12 (va (5))) :: (wI g n_targets 0 36 (va (6))) :: (wI g n_weights 0 36 (va (7))) :: (wO2 d (vi 4) d_kind d_pay d_name d_ways d_held d_targets d_weights) :: (wI g d_kind 0 12 (va (8))) :: (wI g d_pay 0 12 (va (9))) :: (wI g d_name 0 12 (va (10))) :: (wI g d_ways 0 12 (va (11))) :: (wI g d_held 0 12 (va (12))) :: (wI g d_targets 0 36 (va (13))) :: (wI g d_weights 0 36 (va (14))) :: (wR g x_images 4 2 (va_up (va_up (fun _ => none) 0 (some i0)) 1 (some i1))) :: (wO2 i0 (vi 5) i0_kind i0_pay i0_name i0_ways i0_held i0_targets i0_weights) :: (wI g i0_kind 0 12 (va (15))) :: (wI g i0_pay 0 12 (va (16))) :: (wI g i0_name 0 12 (va (17))) :: (wI g i0_ways 0 12 (va (18))) :: (wI g i0_held 0 12 (va (19))) :: (wI g i0_targets 0 36 (va (20))) :: (wI g i0_weights 0 36 (va (21))) :: (wO2 i1 (vi 6) i1_kind i1_pay i1_name i1_ways i1_held i1_targets i1_weights) :: (wI g i1_kind 0 12 (va (22))) :: (wI g i1_pay 0 12 (va (23))) :: (wI g i1_name 0 12 (va (24))) :: (wI g i1_ways 0 12 (va (25))) :: (wI g i1_held 0 12 (va (26))) :: (wI g i1_targets 0 36 (va (27))) :: (wI g i1_weights 0 36 (va (28))) :: (wI g x_kept 3 2 (va (29))) :: (wO4 rd tp d rd_kindWords (vi 7) (vi 8) (vi 9) (vi 10) (vi 11) (vi 12) (vi 13)) :: (wI g rd_kindWords 0 4 (va (30))) :: (wO7 st st_what st_node st_index st_before (vi 14)) :: (wI g st_what 0 8 (va (31))) :: (wI g st_node 0 8 (va (32))) :: (wI g st_index 0 8 (va (33))) :: (wI g st_before 0 8 (va (34))) :: (wO9 tl tl_bytes (vi 15)) :: (wI g tl_bytes 0 700 (va (35))) :: (wO5 rg n) :: (wO6 sv n co sv_keep sv_scaled) :: (wI g sv_keep 0 12 (va (36))) :: (wJ g sv_scaled 1 12 (vb (0))) :: (wO0 co n eq co_place) :: (wI g co_place 0 12 (va (37))) :: (wO1 eq eq_rows eq_right (vl 0)) :: (wJ g eq_right 1 8 (vb (1))) :: (wR g eq_rows 5 8 (fun i => if i < 8 then some (rr i) else none)) :: (wJ g (rr 0) 1 8 (ct 0)) :: (wJ g (rr 1) 1 8 (ct 1)) :: (wJ g (rr 2) 1 8 (ct 2)) :: (wJ g (rr 3) 1 8 (ct 3)) :: (wJ g (rr 4) 1 8 (ct 4)) :: (wJ g (rr 5) 1 8 (ct 5)) :: (wJ g (rr 6) 1 8 (ct 6)) :: (wJ g (rr 7) 1 8 (ct 7)) :: (wO3 oc n sv oc_plan ow ol oc_reach oc_ringBits (vi 16) (vi 17) (vi 18)) :: (wI g oc_plan 0 12 (va (38))) :: (wI g oc_reach 0 12 (va (39))) :: (wI g oc_ringBits 0 12 (va (40))) :: (wO10 ow ow_part (vl 1)) :: (wJ g ow_part 1 12 (vb (2))) :: (wO10 ol ol_part (vl 2)) :: (wJ g ol_part 1 12 (vb (3))) :: (wI g x_tried 0 12 (va (41))) :: (wO10 lf lf_part (vl 3)) :: (wJ g lf_part 1 12 (vb (4))) :: (wI g x_sw 0 12 (va (42))) :: (wO10 sww sww_part (vl 4)) :: (wJ g sww_part 1 12 (vb (5))) :: (wO10 wi wi_part (vl 5)) :: (wJ g wi_part 1 12 (vb (6))) :: (wO12 mm (vi 19) m_s m_spare m_kept m_undone m_triedWay m_isKept (vi 20) m_tape (vi 21) (vi 22) (vi 23) (vi 24) (vi 25) (vi 26) (vi 27) (vi 28) (vi 29) m_letters (vi 30) m_choice m_row m_up m_low m_m m_bestUp m_bestLow m_replyUp m_replyLow m_worthUp m_worthLow m_bestWay (vi 31) m_told (vi 32)) :: (wI g m_s 0 193 (va (43))) :: (wI g m_spare 0 193 (va (44))) :: (wI g m_kept 0 386 (va (45))) :: (wI g m_undone 0 1544 (va (46))) :: (wI g m_triedWay 0 12 (va (47))) :: (wI g m_isKept 3 2 (va (48))) :: (wI g m_tape 2 440 (va (49))) :: (wI g m_letters 2 6 (va (50))) :: (wI g m_choice 0 12 (va (51))) :: (wI g m_row 0 12 (va (52))) :: (wJ g m_up 1 12 (vb (7))) :: (wJ g m_low 1 12 (vb (8))) :: (wJ g m_bestUp 1 12 (vb (9))) :: (wJ g m_bestLow 1 12 (vb (10))) :: (wJ g m_replyUp 1 12 (vb (11))) :: (wJ g m_replyLow 1 12 (vb (12))) :: (wJ g m_worthUp 1 12 (vb (13))) :: (wJ g m_worthLow 1 12 (vb (14))) :: (wI g m_bestWay 0 12 (va (53))) :: (wI g m_told 2 900 (va (54))) :: (wR g m_m 5 12 (fun i => if i < 12 then some (rm i) else none)) :: (wJ g (rm 0) 1 13 (cm 0)) :: (wJ g (rm 1) 1 13 (cm 1)) :: (wJ g (rm 2) 1 13 (cm 2)) :: (wJ g (rm 3) 1 13 (cm 3)) :: (wJ g (rm 4) 1 13 (cm 4)) :: (wJ g (rm 5) 1 13 (cm 5)) :: (wJ g (rm 6) 1 13 (cm 6)) :: (wJ g (rm 7) 1 13 (cm 7)) :: (wJ g (rm 8) 1 13 (cm 8)) :: (wJ g (rm 9) 1 13 (cm 9)) :: (wJ g (rm 10) 1 13 (cm 10)) :: (wJ g (rm 11) 1 13 (cm 11)) :: (wJ g oa 1 1 (vb (15))) :: []) H ∧ va_D A ((wO11 x tp n d x_images x_kept rd st tl rg sv oc x_tried lf (vi 0) x_sw sww (vi 1) wi) :: (wO8 tp tp_bytes (vi 2)) :: (wI g tp_bytes 0 440 (va (0))) :: (wO2 n (vi 3) n_kind n_pay n_name n_ways n_held n_targets n_weights) :: (wI g n_kind 0 12 (va (1))) :: (wI g n_pay 0 12 (va (2))) :: (wI g n_name 0 12 (va (3))) :: (wI g n_ways 0 12 (va (4))) :: (wI g n_held 0 12 (va (5))) :: (wI g n_targets 0 36 (va (6))) :: (wI g n_weights 0 36 (va (7))) :: (wO2 d (vi 4) d_kind d_pay d_name d_ways d_held d_targets d_weights) :: (wI g d_kind 0 12 (va (8))) :: (wI g d_pay 0 12 (va (9))) :: (wI g d_name 0 12 (va (10))) :: (wI g d_ways 0 12 (va (11))) :: (wI g d_held 0 12 (va (12))) :: (wI g d_targets 0 36 (va (13))) :: (wI g d_weights 0 36 (va (14))) :: (wR g x_images 4 2 (va_up (va_up (fun _ => none) 0 (some i0)) 1 (some i1))) :: (wO2 i0 (vi 5) i0_kind i0_pay i0_name i0_ways i0_held i0_targets i0_weights) :: (wI g i0_kind 0 12 (va (15))) :: (wI g i0_pay 0 12 (va (16))) :: (wI g i0_name 0 12 (va (17))) :: (wI g i0_ways 0 12 (va (18))) :: (wI g i0_held 0 12 (va (19))) :: (wI g i0_targets 0 36 (va (20))) :: (wI g i0_weights 0 36 (va (21))) :: (wO2 i1 (vi 6) i1_kind i1_pay i1_name i1_ways i1_held i1_targets i1_weights) :: (wI g i1_kind 0 12 (va (22))) :: (wI g i1_pay 0 12 (va (23))) :: (wI g i1_name 0 12 (va (24))) :: (wI g i1_ways 0 12 (va (25))) :: (wI g i1_held 0 12 (va (26))) :: (wI g i1_targets 0 36 (va (27))) :: (wI g i1_weights 0 36 (va (28))) :: (wI g x_kept 3 2 (va (29))) :: (wO4 rd tp d rd_kindWords (vi 7) (vi 8) (vi 9) (vi 10) (vi 11) (vi 12) (vi 13)) :: (wI g rd_kindWords 0 4 (va (30))) :: (wO7 st st_what st_node st_index st_before (vi 14)) :: (wI g st_what 0 8 (va (31))) :: (wI g st_node 0 8 (va (32))) :: (wI g st_index 0 8 (va (33))) :: (wI g st_before 0 8 (va (34))) :: (wO9 tl tl_bytes (vi 15)) :: (wI g tl_bytes 0 700 (va (35))) :: (wO5 rg n) :: (wO6 sv n co sv_keep sv_scaled) :: (wI g sv_keep 0 12 (va (36))) :: (wJ g sv_scaled 1 12 (vb (0))) :: (wO0 co n eq co_place) :: (wI g co_place 0 12 (va (37))) :: (wO1 eq eq_rows eq_right (vl 0)) :: (wJ g eq_right 1 8 (vb (1))) :: (wR g eq_rows 5 8 (fun i => if i < 8 then some (rr i) else none)) :: (wJ g (rr 0) 1 8 (ct 0)) :: (wJ g (rr 1) 1 8 (ct 1)) :: (wJ g (rr 2) 1 8 (ct 2)) :: (wJ g (rr 3) 1 8 (ct 3)) :: (wJ g (rr 4) 1 8 (ct 4)) :: (wJ g (rr 5) 1 8 (ct 5)) :: (wJ g (rr 6) 1 8 (ct 6)) :: (wJ g (rr 7) 1 8 (ct 7)) :: (wO3 oc n sv oc_plan ow ol oc_reach oc_ringBits (vi 16) (vi 17) (vi 18)) :: (wI g oc_plan 0 12 (va (38))) :: (wI g oc_reach 0 12 (va (39))) :: (wI g oc_ringBits 0 12 (va (40))) :: (wO10 ow ow_part (vl 1)) :: (wJ g ow_part 1 12 (vb (2))) :: (wO10 ol ol_part (vl 2)) :: (wJ g ol_part 1 12 (vb (3))) :: (wI g x_tried 0 12 (va (41))) :: (wO10 lf lf_part (vl 3)) :: (wJ g lf_part 1 12 (vb (4))) :: (wI g x_sw 0 12 (va (42))) :: (wO10 sww sww_part (vl 4)) :: (wJ g sww_part 1 12 (vb (5))) :: (wO10 wi wi_part (vl 5)) :: (wJ g wi_part 1 12 (vb (6))) :: (wO12 mm (vi 19) m_s m_spare m_kept m_undone m_triedWay m_isKept (vi 20) m_tape (vi 21) (vi 22) (vi 23) (vi 24) (vi 25) (vi 26) (vi 27) (vi 28) (vi 29) m_letters (vi 30) m_choice m_row m_up m_low m_m m_bestUp m_bestLow m_replyUp m_replyLow m_worthUp m_worthLow m_bestWay (vi 31) m_told (vi 32)) :: (wI g m_s 0 193 (va (43))) :: (wI g m_spare 0 193 (va (44))) :: (wI g m_kept 0 386 (va (45))) :: (wI g m_undone 0 1544 (va (46))) :: (wI g m_triedWay 0 12 (va (47))) :: (wI g m_isKept 3 2 (va (48))) :: (wI g m_tape 2 440 (va (49))) :: (wI g m_letters 2 6 (va (50))) :: (wI g m_choice 0 12 (va (51))) :: (wI g m_row 0 12 (va (52))) :: (wJ g m_up 1 12 (vb (7))) :: (wJ g m_low 1 12 (vb (8))) :: (wJ g m_bestUp 1 12 (vb (9))) :: (wJ g m_bestLow 1 12 (vb (10))) :: (wJ g m_replyUp 1 12 (vb (11))) :: (wJ g m_replyLow 1 12 (vb (12))) :: (wJ g m_worthUp 1 12 (vb (13))) :: (wJ g m_worthLow 1 12 (vb (14))) :: (wI g m_bestWay 0 12 (va (53))) :: (wI g m_told 2 900 (va (54))) :: (wR g m_m 5 12 (fun i => if i < 12 then some (rm i) else none)) :: (wJ g (rm 0) 1 13 (cm 0)) :: (wJ g (rm 1) 1 13 (cm 1)) :: (wJ g (rm 2) 1 13 (cm 2)) :: (wJ g (rm 3) 1 13 (cm 3)) :: (wJ g (rm 4) 1 13 (cm 4)) :: (wJ g (rm 5) 1 13 (cm 5)) :: (wJ g (rm 6) 1 13 (cm 6)) :: (wJ g (rm 7) 1 13 (cm 7)) :: (wJ g (rm 8) 1 13 (cm 8)) :: (wJ g (rm 9) 1 13 (cm 9)) :: (wJ g (rm 10) 1 13 (cm 10)) :: (wJ g (rm 11) 1 13 (cm 11)) :: (wJ g oa 1 1 (vb (15))) :: []) ∧ (0 ≤ ((vi 0) : Int32).toInt ∧ ((vi 0) : Int32).toInt ≤ 1) ∧ (0 ≤ ((vi 2) : Int32).toInt ∧ ((vi 2) : Int32).toInt ≤ 440) ∧ (∀ j : Nat, 0 ≤ ((va (0)) j).toInt ∧ ((va (0)) j).toInt ≤ 255) ∧ (0 ≤ ((vi 3) : Int32).toInt ∧ ((vi 3) : Int32).toInt ≤ 12) ∧ (∀ j : Nat, 0 ≤ ((va (1)) j).toInt ∧ ((va (1)) j).toInt ≤ 3) ∧ (∀ j : Nat, 0 ≤ ((va (4)) j).toInt ∧ ((va (4)) j).toInt ≤ 3) ∧ (∀ j : Nat, (-1) ≤ ((va (5)) j).toInt ∧ ((va (5)) j).toInt ≤ 2) ∧ (∀ j : Nat, 0 ≤ ((va (6)) j).toInt ∧ ((va (6)) j).toInt ≤ 11) ∧ (0 ≤ ((vi 4) : Int32).toInt ∧ ((vi 4) : Int32).toInt ≤ 12) ∧ (∀ j : Nat, 0 ≤ ((va (8)) j).toInt ∧ ((va (8)) j).toInt ≤ 3) ∧ (∀ j : Nat, 0 ≤ ((va (11)) j).toInt ∧ ((va (11)) j).toInt ≤ 3) ∧ (∀ j : Nat, (-1) ≤ ((va (12)) j).toInt ∧ ((va (12)) j).toInt ≤ 2) ∧ (∀ j : Nat, 0 ≤ ((va (13)) j).toInt ∧ ((va (13)) j).toInt ≤ 11) ∧ (0 ≤ ((vi 5) : Int32).toInt ∧ ((vi 5) : Int32).toInt ≤ 12) ∧ (∀ j : Nat, 0 ≤ ((va (15)) j).toInt ∧ ((va (15)) j).toInt ≤ 3) ∧ (∀ j : Nat, 0 ≤ ((va (18)) j).toInt ∧ ((va (18)) j).toInt ≤ 3) ∧ (∀ j : Nat, (-1) ≤ ((va (19)) j).toInt ∧ ((va (19)) j).toInt ≤ 2) ∧ (∀ j : Nat, 0 ≤ ((va (20)) j).toInt ∧ ((va (20)) j).toInt ≤ 11) ∧ (0 ≤ ((vi 6) : Int32).toInt ∧ ((vi 6) : Int32).toInt ≤ 12) ∧ (∀ j : Nat, 0 ≤ ((va (22)) j).toInt ∧ ((va (22)) j).toInt ≤ 3) ∧ (∀ j : Nat, 0 ≤ ((va (25)) j).toInt ∧ ((va (25)) j).toInt ≤ 3) ∧ (∀ j : Nat, (-1) ≤ ((va (26)) j).toInt ∧ ((va (26)) j).toInt ≤ 2) ∧ (∀ j : Nat, 0 ≤ ((va (27)) j).toInt ∧ ((va (27)) j).toInt ≤ 11) ∧ (∀ j : Nat, 0 ≤ ((va (29)) j).toInt ∧ ((va (29)) j).toInt ≤ 1) ∧ (0 ≤ ((vi 8) : Int32).toInt ∧ ((vi 8) : Int32).toInt ≤ 5) ∧ (0 ≤ ((vi 9) : Int32).toInt ∧ ((vi 9) : Int32).toInt ≤ 440) ∧ (0 ≤ ((vi 10) : Int32).toInt ∧ ((vi 10) : Int32).toInt ≤ 440) ∧ (0 ≤ ((vi 11) : Int32).toInt ∧ ((vi 11) : Int32).toInt ≤ 4) ∧ (0 ≤ ((vi 12) : Int32).toInt ∧ ((vi 12) : Int32).toInt ≤ 440) ∧ (0 ≤ ((vi 14) : Int32).toInt ∧ ((vi 14) : Int32).toInt ≤ 8) ∧ (∀ j : Nat, 0 ≤ ((va (31)) j).toInt ∧ ((va (31)) j).toInt ≤ 2) ∧ (∀ j : Nat, 0 ≤ ((va (32)) j).toInt ∧ ((va (32)) j).toInt ≤ 11) ∧ (∀ j : Nat, 0 ≤ ((va (33)) j).toInt ∧ ((va (33)) j).toInt ≤ 2) ∧ (0 ≤ ((vi 15) : Int32).toInt ∧ ((vi 15) : Int32).toInt ≤ 700) ∧ (∀ j : Nat, (-1) ≤ ((va (37)) j).toInt ∧ ((va (37)) j).toInt ≤ 7) ∧ (0 ≤ ((vi 16) : Int32).toInt ∧ ((vi 16) : Int32).toInt ≤ 12) ∧ (0 ≤ ((vi 18) : Int32).toInt ∧ ((vi 18) : Int32).toInt ≤ 1) ∧ (∀ j : Nat, 0 ≤ ((va (38)) j).toInt ∧ ((va (38)) j).toInt ≤ 2) ∧ (∀ j : Nat, 0 ≤ ((va (41)) j).toInt ∧ ((va (41)) j).toInt ≤ 2) ∧ (∀ j : Nat, 0 ≤ ((va (42)) j).toInt ∧ ((va (42)) j).toInt ≤ 2) ∧ (0 ≤ ((vi 20) : Int32).toInt ∧ ((vi 20) : Int32).toInt ≤ 8) ∧ (0 ≤ ((vi 21) : Int32).toInt ∧ ((vi 21) : Int32).toInt ≤ 440) ∧ (0 ≤ ((vi 22) : Int32).toInt ∧ ((vi 22) : Int32).toInt ≤ 440) ∧ (0 ≤ ((vi 23) : Int32).toInt ∧ ((vi 23) : Int32).toInt ≤ 440) ∧ (0 ≤ ((vi 24) : Int32).toInt ∧ ((vi 24) : Int32).toInt ≤ 440) ∧ (0 ≤ ((vi 25) : Int32).toInt ∧ ((vi 25) : Int32).toInt ≤ 4) ∧ (0 ≤ ((vi 26) : Int32).toInt ∧ ((vi 26) : Int32).toInt ≤ 814) ∧ ((-440) ≤ ((vi 27) : Int32).toInt ∧ ((vi 27) : Int32).toInt ≤ 440) ∧ (0 ≤ ((vi 29) : Int32).toInt ∧ ((vi 29) : Int32).toInt ≤ 440) ∧ (0 ≤ ((vi 30) : Int32).toInt ∧ ((vi 30) : Int32).toInt ≤ 1) ∧ (0 ≤ ((vi 32) : Int32).toInt ∧ ((vi 32) : Int32).toInt ≤ 900) ∧ (∀ j : Nat, 0 ≤ ((va (47)) j).toInt ∧ ((va (47)) j).toInt ≤ 2) ∧ (∀ j : Nat, 0 ≤ ((va (48)) j).toInt ∧ ((va (48)) j).toInt ≤ 1) ∧ (∀ j : Nat, (-128) ≤ ((va (49)) j).toInt ∧ ((va (49)) j).toInt ≤ 127) ∧ (∀ j : Nat, 0 ≤ ((va (51)) j).toInt ∧ ((va (51)) j).toInt ≤ 2) ∧ (∀ j : Nat, (-1) ≤ ((va (52)) j).toInt ∧ ((va (52)) j).toInt ≤ 11) ∧ (∀ j : Nat, 0 ≤ ((va (53)) j).toInt ∧ ((va (53)) j).toInt ≤ 2) ∧ (GS (va (43))) ∧ (TW (va (47)) (va (43))) ∧ (KS (va (46)) 8) ∧ (KS (va (45)) 2) ∧ (∀ j : Nat, (va (31)) j = 0 → -1 ≤ ((va (34)) j).toInt ∧ ((va (34)) j).toInt ≤ 2) ∧ (((vi 2) : Int32).toInt = ((vi 21) : Int32).toInt) ∧ (KIq (va (29)) (va (48))) ∧ (TT (va (0)) (va (49)) ((vi 2) : Int32).toInt) ∧ (KWs (va (30))) ∧ (((vi 7) : Int32).toInt = 16819) ∧ (AEq (absC (vi 3) (va (1)) (va (2)) (va (3)) (va (4)) (va (5)) (va (6)) (va (7))) (absR (va (43)))) ∧ (((vi 20) : Int32).toInt = ((vi 14) : Int32).toInt) ∧ (USr ((vi 14) : Int32).toInt (va (31)) (va (32)) (va (33)) (va (34)) (rowsOf (va (46)) (va (43)) ((vi 14) : Int32).toInt)) ∧ (IMr (va (48)) (absC (vi 5) (va (15)) (va (16)) (va (17)) (va (18)) (va (19)) (va (20)) (va (21))) (absC (vi 6) (va (22)) (va (23)) (va (24)) (va (25)) (va (26)) (va (27)) (va (28))) (va (45))) ∧ (TXQ ((vi 15) : Int32).toInt ((vi 32) : Int32).toInt (va (35)) (va (54)))
set_option maxHeartbeats 4000000 in
set_option maxRecDepth 100000 in
theorem li_mk {D : va_G} {g : Nat → ClassId} {A : Nat → Prop} {H : Heap} {x mm oa tp n d x_images x_kept rd st tl rg sv oc x_tried lf x_sw sww wi tp_bytes n_kind n_pay n_name n_ways n_held n_targets n_weights d_kind d_pay d_name d_ways d_held d_targets d_weights i0 i1 i0_kind i0_pay i0_name i0_ways i0_held i0_targets i0_weights i1_kind i1_pay i1_name i1_ways i1_held i1_targets i1_weights rd_kindWords st_what st_node st_index st_before tl_bytes co sv_keep sv_scaled eq co_place eq_rows eq_right oc_plan ow ol oc_reach oc_ringBits ow_part ol_part lf_part sww_part wi_part m_s m_spare m_kept m_undone m_triedWay m_isKept m_tape m_letters m_choice m_row m_up m_low m_m m_bestUp m_bestLow m_replyUp m_replyLow m_worthUp m_worthLow m_bestWay m_told : Nat} {rr rm : Nat → Nat} {xlk : Int32} {xsb : Int32} {tpn : Int32} {tf : Nat → Int32} {n_nodes : Int32} {n_fkind : Nat → Int32} {n_fpay : Nat → Int32} {n_fname : Nat → Int32} {n_fways : Nat → Int32} {n_fheld : Nat → Int32} {n_ftargets : Nat → Int32} {n_fweights : Nat → Int32} {d_nodes : Int32} {d_fkind : Nat → Int32} {d_fpay : Nat → Int32} {d_fname : Nat → Int32} {d_fways : Nat → Int32} {d_fheld : Nat → Int32} {d_ftargets : Nat → Int32} {d_fweights : Nat → Int32} {i0_nodes : Int32} {i0_fkind : Nat → Int32} {i0_fpay : Nat → Int32} {i0_fname : Nat → Int32} {i0_fways : Nat → Int32} {i0_fheld : Nat → Int32} {i0_ftargets : Nat → Int32} {i0_fweights : Nat → Int32} {i1_nodes : Int32} {i1_fkind : Nat → Int32} {i1_fpay : Nat → Int32} {i1_fname : Nat → Int32} {i1_fways : Nat → Int32} {i1_fheld : Nat → Int32} {i1_ftargets : Nat → Int32} {i1_fweights : Nat → Int32} {xkf : Nat → Int32} {ww : Int32} {fk : Int32} {fp : Int32} {nx : Int32} {tk : Int32} {tpl : Int32} {tv : Int32} {kwf : Nat → Int32} {stc : Int32} {stw : Nat → Int32} {stn : Nat → Int32} {sti : Nat → Int32} {stb : Nat → Int32} {tll : Int32} {tlf : Nat → Int32} {kpf : Nat → Int32} {scf : Nat → Int64} {pcf : Nat → Int32} {ew : Int64} {fr : Nat → Int64} {ct : Nat → Nat → Int64} {orc : Int32} {orn : Int32} {ose : Int32} {opf : Nat → Int32} {orf : Nat → Int32} {obf : Nat → Int32} {oww : Int64} {owp : Nat → Int64} {olw : Int64} {olp : Nat → Int64} {trf : Nat → Int32} {lfw : Int64} {lfp : Nat → Int64} {swf : Nat → Int32} {swww : Int64} {swwp : Nat → Int64} {wiw : Int64} {wip : Nat → Int64} {i_thrown : Int32} {i_undoMany : Int32} {i_length : Int32} {i_size : Int32} {i_p : Int32} {i_at : Int32} {i_token : Int32} {i_number : Int32} {i_letterMany : Int32} {i_fault : Int32} {i_faultAt : Int32} {i_isKnown : Int32} {i_seed : Int32} {i_toldMany : Int32} {q_s : Nat → Int32} {q_spare : Nat → Int32} {q_kept : Nat → Int32} {q_undone : Nat → Int32} {q_triedWay : Nat → Int32} {q_isKept : Nat → Int32} {q_tape : Nat → Int32} {q_letters : Nat → Int32} {q_choice : Nat → Int32} {q_row : Nat → Int32} {q_up : Nat → Int64} {q_low : Nat → Int64} {q_bestUp : Nat → Int64} {q_bestLow : Nat → Int64} {q_replyUp : Nat → Int64} {q_replyLow : Nat → Int64} {q_worthUp : Nat → Int64} {q_worthLow : Nat → Int64} {q_bestWay : Nat → Int32} {q_told : Nat → Int32} {cm : Nat → Nat → Int64} {oaf : Nat → Int64} (hP : va_P D vwCl ((wO11 x tp n d x_images x_kept rd st tl rg sv oc x_tried lf xlk x_sw sww xsb wi) :: (wO8 tp tp_bytes tpn) :: (wI g tp_bytes 0 440 tf) :: (wO2 n n_nodes n_kind n_pay n_name n_ways n_held n_targets n_weights) :: (wI g n_kind 0 12 n_fkind) :: (wI g n_pay 0 12 n_fpay) :: (wI g n_name 0 12 n_fname) :: (wI g n_ways 0 12 n_fways) :: (wI g n_held 0 12 n_fheld) :: (wI g n_targets 0 36 n_ftargets) :: (wI g n_weights 0 36 n_fweights) :: (wO2 d d_nodes d_kind d_pay d_name d_ways d_held d_targets d_weights) :: (wI g d_kind 0 12 d_fkind) :: (wI g d_pay 0 12 d_fpay) :: (wI g d_name 0 12 d_fname) :: (wI g d_ways 0 12 d_fways) :: (wI g d_held 0 12 d_fheld) :: (wI g d_targets 0 36 d_ftargets) :: (wI g d_weights 0 36 d_fweights) :: (wR g x_images 4 2 (va_up (va_up (fun _ => none) 0 (some i0)) 1 (some i1))) :: (wO2 i0 i0_nodes i0_kind i0_pay i0_name i0_ways i0_held i0_targets i0_weights) :: (wI g i0_kind 0 12 i0_fkind) :: (wI g i0_pay 0 12 i0_fpay) :: (wI g i0_name 0 12 i0_fname) :: (wI g i0_ways 0 12 i0_fways) :: (wI g i0_held 0 12 i0_fheld) :: (wI g i0_targets 0 36 i0_ftargets) :: (wI g i0_weights 0 36 i0_fweights) :: (wO2 i1 i1_nodes i1_kind i1_pay i1_name i1_ways i1_held i1_targets i1_weights) :: (wI g i1_kind 0 12 i1_fkind) :: (wI g i1_pay 0 12 i1_fpay) :: (wI g i1_name 0 12 i1_fname) :: (wI g i1_ways 0 12 i1_fways) :: (wI g i1_held 0 12 i1_fheld) :: (wI g i1_targets 0 36 i1_ftargets) :: (wI g i1_weights 0 36 i1_fweights) :: (wI g x_kept 3 2 xkf) :: (wO4 rd tp d rd_kindWords ww fk fp nx tk tpl tv) :: (wI g rd_kindWords 0 4 kwf) :: (wO7 st st_what st_node st_index st_before stc) :: (wI g st_what 0 8 stw) :: (wI g st_node 0 8 stn) :: (wI g st_index 0 8 sti) :: (wI g st_before 0 8 stb) :: (wO9 tl tl_bytes tll) :: (wI g tl_bytes 0 700 tlf) :: (wO5 rg n) :: (wO6 sv n co sv_keep sv_scaled) :: (wI g sv_keep 0 12 kpf) :: (wJ g sv_scaled 1 12 scf) :: (wO0 co n eq co_place) :: (wI g co_place 0 12 pcf) :: (wO1 eq eq_rows eq_right ew) :: (wJ g eq_right 1 8 fr) :: (wR g eq_rows 5 8 (fun i => if i < 8 then some (rr i) else none)) :: (wJ g (rr 0) 1 8 (ct 0)) :: (wJ g (rr 1) 1 8 (ct 1)) :: (wJ g (rr 2) 1 8 (ct 2)) :: (wJ g (rr 3) 1 8 (ct 3)) :: (wJ g (rr 4) 1 8 (ct 4)) :: (wJ g (rr 5) 1 8 (ct 5)) :: (wJ g (rr 6) 1 8 (ct 6)) :: (wJ g (rr 7) 1 8 (ct 7)) :: (wO3 oc n sv oc_plan ow ol oc_reach oc_ringBits orc orn ose) :: (wI g oc_plan 0 12 opf) :: (wI g oc_reach 0 12 orf) :: (wI g oc_ringBits 0 12 obf) :: (wO10 ow ow_part oww) :: (wJ g ow_part 1 12 owp) :: (wO10 ol ol_part olw) :: (wJ g ol_part 1 12 olp) :: (wI g x_tried 0 12 trf) :: (wO10 lf lf_part lfw) :: (wJ g lf_part 1 12 lfp) :: (wI g x_sw 0 12 swf) :: (wO10 sww sww_part swww) :: (wJ g sww_part 1 12 swwp) :: (wO10 wi wi_part wiw) :: (wJ g wi_part 1 12 wip) :: (wO12 mm i_thrown m_s m_spare m_kept m_undone m_triedWay m_isKept i_undoMany m_tape i_length i_size i_p i_at i_token i_number i_letterMany i_fault i_faultAt m_letters i_isKnown m_choice m_row m_up m_low m_m m_bestUp m_bestLow m_replyUp m_replyLow m_worthUp m_worthLow m_bestWay i_seed m_told i_toldMany) :: (wI g m_s 0 193 q_s) :: (wI g m_spare 0 193 q_spare) :: (wI g m_kept 0 386 q_kept) :: (wI g m_undone 0 1544 q_undone) :: (wI g m_triedWay 0 12 q_triedWay) :: (wI g m_isKept 3 2 q_isKept) :: (wI g m_tape 2 440 q_tape) :: (wI g m_letters 2 6 q_letters) :: (wI g m_choice 0 12 q_choice) :: (wI g m_row 0 12 q_row) :: (wJ g m_up 1 12 q_up) :: (wJ g m_low 1 12 q_low) :: (wJ g m_bestUp 1 12 q_bestUp) :: (wJ g m_bestLow 1 12 q_bestLow) :: (wJ g m_replyUp 1 12 q_replyUp) :: (wJ g m_replyLow 1 12 q_replyLow) :: (wJ g m_worthUp 1 12 q_worthUp) :: (wJ g m_worthLow 1 12 q_worthLow) :: (wI g m_bestWay 0 12 q_bestWay) :: (wI g m_told 2 900 q_told) :: (wR g m_m 5 12 (fun i => if i < 12 then some (rm i) else none)) :: (wJ g (rm 0) 1 13 (cm 0)) :: (wJ g (rm 1) 1 13 (cm 1)) :: (wJ g (rm 2) 1 13 (cm 2)) :: (wJ g (rm 3) 1 13 (cm 3)) :: (wJ g (rm 4) 1 13 (cm 4)) :: (wJ g (rm 5) 1 13 (cm 5)) :: (wJ g (rm 6) 1 13 (cm 6)) :: (wJ g (rm 7) 1 13 (cm 7)) :: (wJ g (rm 8) 1 13 (cm 8)) :: (wJ g (rm 9) 1 13 (cm 9)) :: (wJ g (rm 10) 1 13 (cm 10)) :: (wJ g (rm 11) 1 13 (cm 11)) :: (wJ g oa 1 1 oaf) :: []) H) (hD : va_D A ((wO11 x tp n d x_images x_kept rd st tl rg sv oc x_tried lf xlk x_sw sww xsb wi) :: (wO8 tp tp_bytes tpn) :: (wI g tp_bytes 0 440 tf) :: (wO2 n n_nodes n_kind n_pay n_name n_ways n_held n_targets n_weights) :: (wI g n_kind 0 12 n_fkind) :: (wI g n_pay 0 12 n_fpay) :: (wI g n_name 0 12 n_fname) :: (wI g n_ways 0 12 n_fways) :: (wI g n_held 0 12 n_fheld) :: (wI g n_targets 0 36 n_ftargets) :: (wI g n_weights 0 36 n_fweights) :: (wO2 d d_nodes d_kind d_pay d_name d_ways d_held d_targets d_weights) :: (wI g d_kind 0 12 d_fkind) :: (wI g d_pay 0 12 d_fpay) :: (wI g d_name 0 12 d_fname) :: (wI g d_ways 0 12 d_fways) :: (wI g d_held 0 12 d_fheld) :: (wI g d_targets 0 36 d_ftargets) :: (wI g d_weights 0 36 d_fweights) :: (wR g x_images 4 2 (va_up (va_up (fun _ => none) 0 (some i0)) 1 (some i1))) :: (wO2 i0 i0_nodes i0_kind i0_pay i0_name i0_ways i0_held i0_targets i0_weights) :: (wI g i0_kind 0 12 i0_fkind) :: (wI g i0_pay 0 12 i0_fpay) :: (wI g i0_name 0 12 i0_fname) :: (wI g i0_ways 0 12 i0_fways) :: (wI g i0_held 0 12 i0_fheld) :: (wI g i0_targets 0 36 i0_ftargets) :: (wI g i0_weights 0 36 i0_fweights) :: (wO2 i1 i1_nodes i1_kind i1_pay i1_name i1_ways i1_held i1_targets i1_weights) :: (wI g i1_kind 0 12 i1_fkind) :: (wI g i1_pay 0 12 i1_fpay) :: (wI g i1_name 0 12 i1_fname) :: (wI g i1_ways 0 12 i1_fways) :: (wI g i1_held 0 12 i1_fheld) :: (wI g i1_targets 0 36 i1_ftargets) :: (wI g i1_weights 0 36 i1_fweights) :: (wI g x_kept 3 2 xkf) :: (wO4 rd tp d rd_kindWords ww fk fp nx tk tpl tv) :: (wI g rd_kindWords 0 4 kwf) :: (wO7 st st_what st_node st_index st_before stc) :: (wI g st_what 0 8 stw) :: (wI g st_node 0 8 stn) :: (wI g st_index 0 8 sti) :: (wI g st_before 0 8 stb) :: (wO9 tl tl_bytes tll) :: (wI g tl_bytes 0 700 tlf) :: (wO5 rg n) :: (wO6 sv n co sv_keep sv_scaled) :: (wI g sv_keep 0 12 kpf) :: (wJ g sv_scaled 1 12 scf) :: (wO0 co n eq co_place) :: (wI g co_place 0 12 pcf) :: (wO1 eq eq_rows eq_right ew) :: (wJ g eq_right 1 8 fr) :: (wR g eq_rows 5 8 (fun i => if i < 8 then some (rr i) else none)) :: (wJ g (rr 0) 1 8 (ct 0)) :: (wJ g (rr 1) 1 8 (ct 1)) :: (wJ g (rr 2) 1 8 (ct 2)) :: (wJ g (rr 3) 1 8 (ct 3)) :: (wJ g (rr 4) 1 8 (ct 4)) :: (wJ g (rr 5) 1 8 (ct 5)) :: (wJ g (rr 6) 1 8 (ct 6)) :: (wJ g (rr 7) 1 8 (ct 7)) :: (wO3 oc n sv oc_plan ow ol oc_reach oc_ringBits orc orn ose) :: (wI g oc_plan 0 12 opf) :: (wI g oc_reach 0 12 orf) :: (wI g oc_ringBits 0 12 obf) :: (wO10 ow ow_part oww) :: (wJ g ow_part 1 12 owp) :: (wO10 ol ol_part olw) :: (wJ g ol_part 1 12 olp) :: (wI g x_tried 0 12 trf) :: (wO10 lf lf_part lfw) :: (wJ g lf_part 1 12 lfp) :: (wI g x_sw 0 12 swf) :: (wO10 sww sww_part swww) :: (wJ g sww_part 1 12 swwp) :: (wO10 wi wi_part wiw) :: (wJ g wi_part 1 12 wip) :: (wO12 mm i_thrown m_s m_spare m_kept m_undone m_triedWay m_isKept i_undoMany m_tape i_length i_size i_p i_at i_token i_number i_letterMany i_fault i_faultAt m_letters i_isKnown m_choice m_row m_up m_low m_m m_bestUp m_bestLow m_replyUp m_replyLow m_worthUp m_worthLow m_bestWay i_seed m_told i_toldMany) :: (wI g m_s 0 193 q_s) :: (wI g m_spare 0 193 q_spare) :: (wI g m_kept 0 386 q_kept) :: (wI g m_undone 0 1544 q_undone) :: (wI g m_triedWay 0 12 q_triedWay) :: (wI g m_isKept 3 2 q_isKept) :: (wI g m_tape 2 440 q_tape) :: (wI g m_letters 2 6 q_letters) :: (wI g m_choice 0 12 q_choice) :: (wI g m_row 0 12 q_row) :: (wJ g m_up 1 12 q_up) :: (wJ g m_low 1 12 q_low) :: (wJ g m_bestUp 1 12 q_bestUp) :: (wJ g m_bestLow 1 12 q_bestLow) :: (wJ g m_replyUp 1 12 q_replyUp) :: (wJ g m_replyLow 1 12 q_replyLow) :: (wJ g m_worthUp 1 12 q_worthUp) :: (wJ g m_worthLow 1 12 q_worthLow) :: (wI g m_bestWay 0 12 q_bestWay) :: (wI g m_told 2 900 q_told) :: (wR g m_m 5 12 (fun i => if i < 12 then some (rm i) else none)) :: (wJ g (rm 0) 1 13 (cm 0)) :: (wJ g (rm 1) 1 13 (cm 1)) :: (wJ g (rm 2) 1 13 (cm 2)) :: (wJ g (rm 3) 1 13 (cm 3)) :: (wJ g (rm 4) 1 13 (cm 4)) :: (wJ g (rm 5) 1 13 (cm 5)) :: (wJ g (rm 6) 1 13 (cm 6)) :: (wJ g (rm 7) 1 13 (cm 7)) :: (wJ g (rm 8) 1 13 (cm 8)) :: (wJ g (rm 9) 1 13 (cm 9)) :: (wJ g (rm 10) 1 13 (cm 10)) :: (wJ g (rm 11) 1 13 (cm 11)) :: (wJ g oa 1 1 oaf) :: [])) (h_xlk : 0 ≤ (xlk : Int32).toInt ∧ (xlk : Int32).toInt ≤ 1) (h_tpn : 0 ≤ (tpn : Int32).toInt ∧ (tpn : Int32).toInt ≤ 440) (h_tf : ∀ j : Nat, 0 ≤ (tf j).toInt ∧ (tf j).toInt ≤ 255) (h_n_nodes : 0 ≤ (n_nodes : Int32).toInt ∧ (n_nodes : Int32).toInt ≤ 12) (h_n_fkind : ∀ j : Nat, 0 ≤ (n_fkind j).toInt ∧ (n_fkind j).toInt ≤ 3) (h_n_fways : ∀ j : Nat, 0 ≤ (n_fways j).toInt ∧ (n_fways j).toInt ≤ 3) (h_n_fheld : ∀ j : Nat, (-1) ≤ (n_fheld j).toInt ∧ (n_fheld j).toInt ≤ 2) (h_n_ftargets : ∀ j : Nat, 0 ≤ (n_ftargets j).toInt ∧ (n_ftargets j).toInt ≤ 11) (h_d_nodes : 0 ≤ (d_nodes : Int32).toInt ∧ (d_nodes : Int32).toInt ≤ 12) (h_d_fkind : ∀ j : Nat, 0 ≤ (d_fkind j).toInt ∧ (d_fkind j).toInt ≤ 3) (h_d_fways : ∀ j : Nat, 0 ≤ (d_fways j).toInt ∧ (d_fways j).toInt ≤ 3) (h_d_fheld : ∀ j : Nat, (-1) ≤ (d_fheld j).toInt ∧ (d_fheld j).toInt ≤ 2) (h_d_ftargets : ∀ j : Nat, 0 ≤ (d_ftargets j).toInt ∧ (d_ftargets j).toInt ≤ 11) (h_i0_nodes : 0 ≤ (i0_nodes : Int32).toInt ∧ (i0_nodes : Int32).toInt ≤ 12) (h_i0_fkind : ∀ j : Nat, 0 ≤ (i0_fkind j).toInt ∧ (i0_fkind j).toInt ≤ 3) (h_i0_fways : ∀ j : Nat, 0 ≤ (i0_fways j).toInt ∧ (i0_fways j).toInt ≤ 3) (h_i0_fheld : ∀ j : Nat, (-1) ≤ (i0_fheld j).toInt ∧ (i0_fheld j).toInt ≤ 2) (h_i0_ftargets : ∀ j : Nat, 0 ≤ (i0_ftargets j).toInt ∧ (i0_ftargets j).toInt ≤ 11) (h_i1_nodes : 0 ≤ (i1_nodes : Int32).toInt ∧ (i1_nodes : Int32).toInt ≤ 12) (h_i1_fkind : ∀ j : Nat, 0 ≤ (i1_fkind j).toInt ∧ (i1_fkind j).toInt ≤ 3) (h_i1_fways : ∀ j : Nat, 0 ≤ (i1_fways j).toInt ∧ (i1_fways j).toInt ≤ 3) (h_i1_fheld : ∀ j : Nat, (-1) ≤ (i1_fheld j).toInt ∧ (i1_fheld j).toInt ≤ 2) (h_i1_ftargets : ∀ j : Nat, 0 ≤ (i1_ftargets j).toInt ∧ (i1_ftargets j).toInt ≤ 11) (h_xkf : ∀ j : Nat, 0 ≤ (xkf j).toInt ∧ (xkf j).toInt ≤ 1) (h_fk : 0 ≤ (fk : Int32).toInt ∧ (fk : Int32).toInt ≤ 5) (h_fp : 0 ≤ (fp : Int32).toInt ∧ (fp : Int32).toInt ≤ 440) (h_nx : 0 ≤ (nx : Int32).toInt ∧ (nx : Int32).toInt ≤ 440) (h_tk : 0 ≤ (tk : Int32).toInt ∧ (tk : Int32).toInt ≤ 4) (h_tpl : 0 ≤ (tpl : Int32).toInt ∧ (tpl : Int32).toInt ≤ 440) (h_stc : 0 ≤ (stc : Int32).toInt ∧ (stc : Int32).toInt ≤ 8) (h_stw : ∀ j : Nat, 0 ≤ (stw j).toInt ∧ (stw j).toInt ≤ 2) (h_stn : ∀ j : Nat, 0 ≤ (stn j).toInt ∧ (stn j).toInt ≤ 11) (h_sti : ∀ j : Nat, 0 ≤ (sti j).toInt ∧ (sti j).toInt ≤ 2) (h_tll : 0 ≤ (tll : Int32).toInt ∧ (tll : Int32).toInt ≤ 700) (h_pcf : ∀ j : Nat, (-1) ≤ (pcf j).toInt ∧ (pcf j).toInt ≤ 7) (h_orc : 0 ≤ (orc : Int32).toInt ∧ (orc : Int32).toInt ≤ 12) (h_ose : 0 ≤ (ose : Int32).toInt ∧ (ose : Int32).toInt ≤ 1) (h_opf : ∀ j : Nat, 0 ≤ (opf j).toInt ∧ (opf j).toInt ≤ 2) (h_trf : ∀ j : Nat, 0 ≤ (trf j).toInt ∧ (trf j).toInt ≤ 2) (h_swf : ∀ j : Nat, 0 ≤ (swf j).toInt ∧ (swf j).toInt ≤ 2) (h_i_undoMany : 0 ≤ (i_undoMany : Int32).toInt ∧ (i_undoMany : Int32).toInt ≤ 8) (h_i_length : 0 ≤ (i_length : Int32).toInt ∧ (i_length : Int32).toInt ≤ 440) (h_i_size : 0 ≤ (i_size : Int32).toInt ∧ (i_size : Int32).toInt ≤ 440) (h_i_p : 0 ≤ (i_p : Int32).toInt ∧ (i_p : Int32).toInt ≤ 440) (h_i_at : 0 ≤ (i_at : Int32).toInt ∧ (i_at : Int32).toInt ≤ 440) (h_i_token : 0 ≤ (i_token : Int32).toInt ∧ (i_token : Int32).toInt ≤ 4) (h_i_number : 0 ≤ (i_number : Int32).toInt ∧ (i_number : Int32).toInt ≤ 814) (h_i_letterMany : (-440) ≤ (i_letterMany : Int32).toInt ∧ (i_letterMany : Int32).toInt ≤ 440) (h_i_faultAt : 0 ≤ (i_faultAt : Int32).toInt ∧ (i_faultAt : Int32).toInt ≤ 440) (h_i_isKnown : 0 ≤ (i_isKnown : Int32).toInt ∧ (i_isKnown : Int32).toInt ≤ 1) (h_i_toldMany : 0 ≤ (i_toldMany : Int32).toInt ∧ (i_toldMany : Int32).toInt ≤ 900) (h_q_triedWay : ∀ j : Nat, 0 ≤ (q_triedWay j).toInt ∧ (q_triedWay j).toInt ≤ 2) (h_q_isKept : ∀ j : Nat, 0 ≤ (q_isKept j).toInt ∧ (q_isKept j).toInt ≤ 1) (h_q_tape : ∀ j : Nat, (-128) ≤ (q_tape j).toInt ∧ (q_tape j).toInt ≤ 127) (h_q_choice : ∀ j : Nat, 0 ≤ (q_choice j).toInt ∧ (q_choice j).toInt ≤ 2) (h_q_row : ∀ j : Nat, (-1) ≤ (q_row j).toInt ∧ (q_row j).toInt ≤ 11) (h_q_bestWay : ∀ j : Nat, 0 ≤ (q_bestWay j).toInt ∧ (q_bestWay j).toInt ≤ 2) (hG : GS q_s) (hT : TW q_triedWay q_s) (hU : KS q_undone 8) (hKp : KS q_kept 2) (hrel : ∀ j : Nat, stw j = 0 → -1 ≤ (stb j).toInt ∧ (stb j).toInt ≤ 2) (hLen : (tpn : Int32).toInt = (i_length : Int32).toInt) (hKI : KIq xkf q_isKept) (hTT : TT tf q_tape (tpn : Int32).toInt) (hkw : KWs kwf) (hww : (ww : Int32).toInt = 16819) (hAE : AEq (absC n_nodes n_fkind n_fpay n_fname n_fways n_fheld n_ftargets n_fweights) (absR q_s)) (hcd : (i_undoMany : Int32).toInt = (stc : Int32).toInt) (hUS : USr (stc : Int32).toInt stw stn sti stb (rowsOf q_undone q_s (stc : Int32).toInt)) (hIM : IMr q_isKept (absC i0_nodes i0_fkind i0_fpay i0_fname i0_fways i0_fheld i0_ftargets i0_fweights) (absC i1_nodes i1_fkind i1_fpay i1_fname i1_fways i1_fheld i1_ftargets i1_fweights) q_kept) (hTX : TXQ (tll : Int32).toInt (i_toldMany : Int32).toInt tlf q_told) : LI D g A H x mm oa tp n d x_images x_kept rd st tl rg sv oc x_tried lf x_sw sww wi tp_bytes n_kind n_pay n_name n_ways n_held n_targets n_weights d_kind d_pay d_name d_ways d_held d_targets d_weights i0 i1 i0_kind i0_pay i0_name i0_ways i0_held i0_targets i0_weights i1_kind i1_pay i1_name i1_ways i1_held i1_targets i1_weights rd_kindWords st_what st_node st_index st_before tl_bytes co sv_keep sv_scaled eq co_place eq_rows eq_right oc_plan ow ol oc_reach oc_ringBits ow_part ol_part lf_part sww_part wi_part m_s m_spare m_kept m_undone m_triedWay m_isKept m_tape m_letters m_choice m_row m_up m_low m_m m_bestUp m_bestLow m_replyUp m_replyLow m_worthUp m_worthLow m_bestWay m_told rr rm := ⟨(fun k9 => ((xlk :: xsb :: tpn :: n_nodes :: d_nodes :: i0_nodes :: i1_nodes :: ww :: fk :: fp :: nx :: tk :: tpl :: tv :: stc :: tll :: orc :: orn :: ose :: i_thrown :: i_undoMany :: i_length :: i_size :: i_p :: i_at :: i_token :: i_number :: i_letterMany :: i_fault :: i_faultAt :: i_isKnown :: i_seed :: i_toldMany :: []) : List (Int32)).getD k9 0), (fun k9 => ([ew, oww, olw, lfw, swww, wiw] : List (Int64)).getD k9 0), (fun k9 => ((tf :: n_fkind :: n_fpay :: n_fname :: n_fways :: n_fheld :: n_ftargets :: n_fweights :: d_fkind :: d_fpay :: d_fname :: d_fways :: d_fheld :: d_ftargets :: d_fweights :: i0_fkind :: i0_fpay :: i0_fname :: i0_fways :: i0_fheld :: i0_ftargets :: i0_fweights :: i1_fkind :: i1_fpay :: i1_fname :: i1_fways :: i1_fheld :: i1_ftargets :: i1_fweights :: xkf :: kwf :: stw :: stn :: sti :: stb :: tlf :: kpf :: pcf :: opf :: orf :: obf :: trf :: swf :: q_s :: q_spare :: q_kept :: q_undone :: q_triedWay :: q_isKept :: q_tape :: q_letters :: q_choice :: q_row :: q_bestWay :: q_told :: []) : List (Nat → Int32)).getD k9 (fun _ => 0)), (fun k9 => ([scf, fr, owp, olp, lfp, swwp, wip, q_up, q_low, q_bestUp, q_bestLow, q_replyUp, q_replyLow, q_worthUp, q_worthLow, oaf] : List (Nat → Int64)).getD k9 (fun _ => 0)), ct, cm, hP, hD, h_xlk, h_tpn, h_tf, h_n_nodes, h_n_fkind, h_n_fways, h_n_fheld, h_n_ftargets, h_d_nodes, h_d_fkind, h_d_fways, h_d_fheld, h_d_ftargets, h_i0_nodes, h_i0_fkind, h_i0_fways, h_i0_fheld, h_i0_ftargets, h_i1_nodes, h_i1_fkind, h_i1_fways, h_i1_fheld, h_i1_ftargets, h_xkf, h_fk, h_fp, h_nx, h_tk, h_tpl, h_stc, h_stw, h_stn, h_sti, h_tll, h_pcf, h_orc, h_ose, h_opf, h_trf, h_swf, h_i_undoMany, h_i_length, h_i_size, h_i_p, h_i_at, h_i_token, h_i_number, h_i_letterMany, h_i_faultAt, h_i_isKnown, h_i_toldMany, h_q_triedWay, h_q_isKept, h_q_tape, h_q_choice, h_q_row, h_q_bestWay, hG, hT, hU, hKp, hrel, hLen, hKI, hTT, hkw, hww, hAE, hcd, hUS, hIM, hTX⟩
theorem tr_inL {x : Int32} {n : Nat} (h0 : 0 ≤ x.toInt) (h1 : x.toInt < (n : Int)) : vp_in x n := vp_in_iff.mpr ⟨by omega, by omega⟩
/-! THE CLAIM OUT OF ONE WALK OF THE LAW'S BODY. Your part is whole_start (and what it stands on); all else here is the same for every law, but numbers. -/
def R_law : String := "ChanceRingsLaw"
def lw_Q (_ : Array Value) (s : State) (o : Outcome) (t : State) : Prop := o = .returned (some (.int 1)) ∧ Framed s o t [] 601024 7293034
def lw_Z (below : List Frame) (a : Array Value) (s : State) : State → Prop := fun t => ∃ o, t.status = .running ∧ Ended t below o ∧ lw_Q a s o t
/-- what holds at the law's entry: the machine, the code, the tables' words (any of lw_tbl by 'hts w (by decide +kernel)'), the script of L ints xs at the cell b, what the Statement gives of the start (any of its parts by flat_of_before) -/
def lw_At (p : Program) (s : State) (m : MethodId) (meth : Method) (c : Code) (b L : Nat) (xs : Nat → Int32) : Prop :=
  p.tables.exec = Jvm.exec ∧ c.code = code ∧ meth.sig.returnType = ret ∧ c.maxLocals = 8 ∧ s.vm.findClass R_law = some m.cls ∧ (∀ w ∈ lw_tbl, w.before #[Value.ref b] s = true) ∧ va_X b L xs s s.heap ∧ b < s.heap.size ∧ meth.locks = false ∧ (Jvm.Cond.and given_1 narrow_1).before #[Value.ref b] s = true
