set_option maxHeartbeats 4000000 in
set_option maxRecDepth 100000 in
theorem c_X12_feed2 (l : Launch) (D : va_G) (g : Nat → ClassId) (sz : Nat) (mm : Nat) (p0 : Int32) (p1 : Int32) (p2 : Int32) (p3 : Int32) (p4 : Int32) (i_thrown : Int32) (m_s : Nat) (m_spare : Nat) (m_kept : Nat) (m_undone : Nat) (m_triedWay : Nat) (m_isKept : Nat) (i_undoMany : Int32) (m_tape : Nat) (i_length : Int32) (i_size : Int32) (i_p : Int32) (i_at : Int32) (i_token : Int32) (i_number : Int32) (i_letterMany : Int32) (i_fault : Int32) (i_faultAt : Int32) (m_letters : Nat) (i_isKnown : Int32) (m_choice : Nat) (m_row : Nat) (m_up : Nat) (m_low : Nat) (m_m : Nat) (m_bestUp : Nat) (m_bestLow : Nat) (m_replyUp : Nat) (m_replyLow : Nat) (m_worthUp : Nat) (m_worthLow : Nat) (m_bestWay : Nat) (i_seed : Int32) (m_told : Nat) (i_toldMany : Int32) (tf : Nat → Int32) (h_i_undoMany : 0 ≤ (i_undoMany : Int32).toInt ∧ (i_undoMany : Int32).toInt ≤ 8) (h_i_length : 0 ≤ (i_length : Int32).toInt ∧ (i_length : Int32).toInt ≤ 440) (h_i_size : 0 ≤ (i_size : Int32).toInt ∧ (i_size : Int32).toInt ≤ 440) (h_i_p : 0 ≤ (i_p : Int32).toInt ∧ (i_p : Int32).toInt ≤ 440) (h_i_at : 0 ≤ (i_at : Int32).toInt ∧ (i_at : Int32).toInt ≤ 440) (h_i_token : 0 ≤ (i_token : Int32).toInt ∧ (i_token : Int32).toInt ≤ 4) (h_i_number : 0 ≤ (i_number : Int32).toInt ∧ (i_number : Int32).toInt ≤ 814) (h_i_letterMany : (-440) ≤ (i_letterMany : Int32).toInt ∧ (i_letterMany : Int32).toInt ≤ 440) (h_i_faultAt : 0 ≤ (i_faultAt : Int32).toInt ∧ (i_faultAt : Int32).toInt ≤ 440) (h_i_isKnown : 0 ≤ (i_isKnown : Int32).toInt ∧ (i_isKnown : Int32).toInt ≤ 1) (h_i_toldMany : 0 ≤ (i_toldMany : Int32).toInt ∧ (i_toldMany : Int32).toInt ≤ 900) (h_tf : ∀ j : Nat, (-128) ≤ (tf j).toInt ∧ (tf j).toInt ≤ 127) : Met l yX12_feed (.code yX12_feed cX12_feed 6 (some .int) :: wsL_law) ({ frames := 1, cells := 0, slots := 0, locals := 22 }) (va_Pc [.ref mm, .int p0, .int p1, .int p2, .int p3, .int p4] (fun U => U.heap.size = sz ∧ va_P D vwCl [(wO12 mm i_thrown m_s m_spare m_kept m_undone m_triedWay m_isKept i_undoMany m_tape i_length i_size i_p i_at i_token i_number i_letterMany i_fault i_faultAt m_letters i_isKnown m_choice m_row m_up m_low m_m m_bestUp m_bestLow m_replyUp m_replyLow m_worthUp m_worthLow m_bestWay i_seed m_told i_toldMany), (wI g m_tape 2 440 tf)] U.heap ∧ va_K D vwCl (TY g) U ∧ va_D (fun _ => True) [(wO12 mm i_thrown m_s m_spare m_kept m_undone m_triedWay m_isKept i_undoMany m_tape i_length i_size i_p i_at i_token i_number i_letterMany i_fault i_faultAt m_letters i_isKnown m_choice m_row m_up m_low m_m m_bestUp m_bestLow m_replyUp m_replyLow m_worthUp m_worthLow m_bestWay i_seed m_told i_toldMany), (wI g m_tape 2 440 tf)])) (va_Qi (fun r (_ : Unit) => ((-1) ≤ (r : Int32).toInt ∧ (r : Int32).toInt ≤ 440) ∧ (((i_length : Int32).toInt ≤ 420 → (r : Int32).toInt = (i_length : Int32).toInt + 20) ∧ (420 < (i_length : Int32).toInt → (r : Int32).toInt = -1))) (fun _ t => ∃ o_thrown : Int32, ∃ o_length : Int32, ∃ otf : Nat → Int32, (0 ≤ (o_length : Int32).toInt ∧ (o_length : Int32).toInt ≤ 440) ∧ (∀ j : Nat, (-128) ≤ (otf j).toInt ∧ (otf j).toInt ≤ 127) ∧ (((i_length : Int32).toInt ≤ 420 → (o_length : Int32).toInt = (i_length : Int32).toInt + 20) ∧ (420 < (i_length : Int32).toInt → (o_length : Int32).toInt = (i_length : Int32).toInt)) ∧ (((i_length : Int32).toInt ≤ 420 → AP20 tf otf (i_length : Int32).toInt.toNat p0 p1 p2 p3 p4) ∧ (420 < (i_length : Int32).toInt → otf = tf)) ∧ va_P D vwCl [(wO12 mm o_thrown m_s m_spare m_kept m_undone m_triedWay m_isKept i_undoMany m_tape o_length i_size i_p i_at i_token i_number i_letterMany i_fault i_faultAt m_letters i_isKnown m_choice m_row m_up m_low m_m m_bestUp m_bestLow m_replyUp m_replyLow m_worthUp m_worthLow m_bestWay i_seed m_told i_toldMany), (wI g m_tape 2 440 otf)] t.heap ∧ va_D (va_A [(wO12 mm i_thrown m_s m_spare m_kept m_undone m_triedWay m_isKept i_undoMany m_tape i_length i_size i_p i_at i_token i_number i_letterMany i_fault i_faultAt m_letters i_isKnown m_choice m_row m_up m_low m_m m_bestUp m_bestLow m_replyUp m_replyLow m_worthUp m_worthLow m_bestWay i_seed m_told i_toldMany), (wI g m_tape 2 440 tf)] sz) [(wO12 mm o_thrown m_s m_spare m_kept m_undone m_triedWay m_isKept i_undoMany m_tape o_length i_size i_p i_at i_token i_number i_letterMany i_fault i_faultAt m_letters i_isKnown m_choice m_row m_up m_low m_m m_bestUp m_bestLow m_replyUp m_replyLow m_worthUp m_worthLow m_bestWay i_seed m_told i_toldMany), (wI g m_tape 2 440 otf)]) (va_A [(wO12 mm i_thrown m_s m_spare m_kept m_undone m_triedWay m_isKept i_undoMany m_tape i_length i_size i_p i_at i_token i_number i_letterMany i_fault i_faultAt m_letters i_isKnown m_choice m_row m_up m_low m_m m_bestUp m_bestLow m_replyUp m_replyLow m_worthUp m_worthLow m_bestWay i_seed m_told i_toldMany), (wI g m_tape 2 440 tf)] sz)) 0 0 (va_A [(wO12 mm i_thrown m_s m_spare m_kept m_undone m_triedWay m_isKept i_undoMany m_tape i_length i_size i_p i_at i_token i_number i_letterMany i_fault i_faultAt m_letters i_isKnown m_choice m_row m_up m_low m_m m_bestUp m_bestLow m_replyUp m_replyLow m_worthUp m_worthLow m_bestWay i_seed m_told i_toldMany), (wI g m_tape 2 440 tf)] sz) := by
  refine Met.ofW (cc := cX12_feed) (maxL := 6) (ret := (some .int)) (by decide) rfl ?_
  intro p e s m args below meth c s₁ B hml hv
  obtain ⟨ha, hsz, hP, hK, hD0⟩ := hv
  have hx := B.exec
  have hb := B.bytes
  have hr := B.returns
  have hts0 := atoms_spec (ws := (.code yX12_feed cX12_feed 6 (some .int) :: wsL_law)) B.pre
  have hts : ∀ w ∈ wsL_law, w.before args s = true := fun w h => hts0 w (List.mem_cons_of_mem _ h)
  have hown : s.vm.findClass RX12 = some m.cls := findClass_of_methodNamed B.named
  have hlocks := B.notSynchronized
  subst hsz
  have hD := hD0.self (sz := s.heap.size)
  generalize hAe : va_A [(wO12 mm i_thrown m_s m_spare m_kept m_undone m_triedWay m_isKept i_undoMany m_tape i_length i_size i_p i_at i_token i_number i_letterMany i_fault i_faultAt m_letters i_isKnown m_choice m_row m_up m_low m_m m_bestUp m_bestLow m_replyUp m_replyLow m_worthUp m_worthLow m_bestWay i_seed m_told i_toldMany), (wI g m_tape 2 440 tf)] s.heap.size = A at hD ⊢
  have hA : ∀ q : Nat, s.heap.size ≤ q → A q := fun q h => by rw [← hAe]; exact Or.inr h
  have hS : va_S A s.heap s.heap [] := va_S.rf
  have hP : va_P D vwCl [(wO12 mm i_thrown m_s m_spare m_kept m_undone m_triedWay m_isKept i_undoMany m_tape i_length i_size i_p i_at i_token i_number i_letterMany i_fault i_faultAt m_letters i_isKnown m_choice m_row m_up m_low m_m m_bestUp m_bestLow m_replyUp m_replyLow m_worthUp m_worthLow m_bestWay i_seed m_told i_toldMany), (wI g m_tape 2 440 tf)] s.heap := hP
  refine W.eq (g2 := entryFrame m ([.ref mm, .int p0, .int p1, .int p2, .int p3, .int p4] : List Value).toArray 6) (by rw [ha]) ?_
  have hl := lv_entry ([.ref mm, .int p0, .int p1, .int p2, .int p3, .int p4]) (n := 6) (Nat.le_of_ble_eq_true rfl)
  rw [lg_entry_eq]
  generalize (lg_sl ([.ref mm, .int p0, .int p1, .int p2, .int p3, .int p4]) ++ List.replicate (6 - (lg_sl ([.ref mm, .int p0, .int p1, .int p2, .int p3, .int p4])).length) Slot.unset).toArray = ls at hl ⊢
  have hl : lv_has ls 6 [(0, .ref mm), (1, .int p0), (2, .int p1), (3, .int p2), (4, .int p3), (5, .int p4)] := hl
  refine lv_aload_n hx hb dX12_feed_0 rfl (lv_at hl 0 rfl) ?_
  refine lv_iconst (v := 0) hx hb dX12_feed_1 (by decide) ?_
  refine va_put (D := D) (ci := 12) (v := .int 0) (ty := .int) (C := RX12) (T := TX12) (N := 35) hx hb hts inlX12 tyX12 tyX12_ok nmX12 hown hK hP hD hS 0 rfl rfl 0 (by decide) (hts (Cond.fieldLink RX12 1 "ChanceRingsModel" "thrown" "I") qw_0) (fun _ h9 => h9) rfl (by decide +kernel) rfl rfl (Nat.le_of_ble_eq_true rfl) dX12_feed_2 (fun H locs hP hD hS => ?_)
  have hP : va_P D vwCl [(wO12 mm 0 m_s m_spare m_kept m_undone m_triedWay m_isKept i_undoMany m_tape i_length i_size i_p i_at i_token i_number i_letterMany i_fault i_faultAt m_letters i_isKnown m_choice m_row m_up m_low m_m m_bestUp m_bestLow m_replyUp m_replyLow m_worthUp m_worthLow m_bestWay i_seed m_told i_toldMany), (wI g m_tape 2 440 tf)] H := hP
  have hD : va_D A [(wO12 mm 0 m_s m_spare m_kept m_undone m_triedWay m_isKept i_undoMany m_tape i_length i_size i_p i_at i_token i_number i_letterMany i_fault i_faultAt m_letters i_isKnown m_choice m_row m_up m_low m_m m_bestUp m_bestLow m_replyUp m_replyLow m_worthUp m_worthLow m_bestWay i_seed m_told i_toldMany), (wI g m_tape 2 440 tf)] := hD
  refine lv_aload_n hx hb dX12_feed_5 rfl (lv_at hl 0 rfl) ?_
  refine va_get (D := D) (ci := 12) (v := .int i_length) (C := RX12) (T := TX12) (N := 35) hx hb hts inlX12 hown hK hP 0 rfl rfl 9 (by decide) (hts (Cond.fieldLink RX12 82 "ChanceRingsModel" "length" "I") qw_6) (fun _ h9 => h9) rfl dX12_feed_6 ?_
  refine lv_bipush (v := 20) hx hb dX12_feed_9 (by decide) ?_
  refine lv_iadd hx hb dX12_feed_11 ?_
  refine lv_topi (fun v_58781 v_58781_e => ?_)
  have h_v_58781 : 20 ≤ (v_58781 : Int32).toInt ∧ (v_58781 : Int32).toInt ≤ 460 := by rw [v_58781_e]; exact tr_add h_i_length (⟨by decide, by decide⟩ : 20 ≤ (20 : Int32).toInt ∧ (20 : Int32).toInt ≤ 20) (by decide) (by decide) (by decide) (by decide)
  have q_v_58781 : v_58781.toInt = i_length.toInt + 20 := by rw [v_58781_e]; exact tr_addE h_i_length (⟨by decide, by decide⟩ : 20 ≤ (20 : Int32).toInt ∧ (20 : Int32).toInt ≤ 20) (by decide) (by decide)
  refine lv_sipush (v := 440) hx hb dX12_feed_12 (by decide) ?_
  refine lv_icmp_le (tgt := 20) hx hb dX12_feed_15 (by decide) (fun c_58782 => ?_) (fun c_58782 => ?_)
  · skip
    have kk_440 := tk_440
    have c_58782_i := Int32.le_iff_toInt_le.mp c_58782
    have h_58783 : 20 ≤ (v_58781 : Int32).toInt ∧ (v_58781 : Int32).toInt ≤ 440 := nr_le_l h_v_58781 (⟨by decide, by decide⟩ : 440 ≤ (440 : Int32).toInt ∧ (440 : Int32).toInt ≤ 440) c_58782_i (by decide) (by decide)
    refine lv_aload_n hx hb dX12_feed_20 rfl (lv_at hl 0 rfl) ?_
    refine lv_iload_n hx hb dX12_feed_21 rfl (lv_at hl 1 rfl) ?_
    have h_58785 : 0 ≤ (i_length : Int32).toInt ∧ (i_length : Int32).toInt ≤ 436 := by (first | (clear h_i_undoMany h_i_size h_i_p h_i_at h_i_token h_i_number h_i_letterMany h_i_faultAt h_i_isKnown h_i_toldMany; omega) | omega)
    have hPc := hP.sub (ws' := [(wO12 mm 0 m_s m_spare m_kept m_undone m_triedWay m_isKept i_undoMany m_tape i_length i_size i_p i_at i_token i_number i_letterMany i_fault i_faultAt m_letters i_isKnown m_choice m_row m_up m_low m_m m_bestUp m_bestLow m_replyUp m_replyLow m_worthUp m_worthLow m_bestWay i_seed m_told i_toldMany), (wI g m_tape 2 440 tf)]) [0, 1] rfl
    have hDc := hD.sub (ws' := [(wO12 mm 0 m_s m_spare m_kept m_undone m_triedWay m_isKept i_undoMany m_tape i_length i_size i_p i_at i_token i_number i_letterMany i_fault i_faultAt m_letters i_isKnown m_choice m_row m_up m_low m_m m_bestUp m_bestLow m_replyUp m_replyLow m_worthUp m_worthLow m_bestWay i_seed m_told i_toldMany), (wI g m_tape 2 440 tf)]) [0, 1] (by decide) rfl
    have hFc := va_free (wc := [(wO12 mm 0 m_s m_spare m_kept m_undone m_triedWay m_isKept i_undoMany m_tape i_length i_size i_p i_at i_token i_number i_letterMany i_fault i_faultAt m_letters i_isKnown m_choice m_row m_up m_low m_m m_bestUp m_bestLow m_replyUp m_replyLow m_worthUp m_worthLow m_bestWay i_seed m_told i_toldMany), (wI g m_tape 2 440 tf)]) hD hS hA [0, 1] rfl
    refine va_callv (va_runV (As := [.int p0]) (rest := []) ⟨hx, hb, hml, hown, hts⟩ (c_X12_four2 l D g H.size mm p0 0 m_s m_spare m_kept m_undone m_triedWay m_isKept i_undoMany m_tape i_length i_size i_p i_at i_token i_number i_letterMany i_fault i_faultAt m_letters i_isKnown m_choice m_row m_up m_low m_m m_bestUp m_bestLow m_replyUp m_replyLow m_worthUp m_worthLow m_bestWay i_seed m_told i_toldMany tf (tr_w h_i_undoMany (by decide) (by decide)) (tr_w h_58785 (by decide) (by decide)) (tr_w h_i_size (by decide) (by decide)) (tr_w h_i_p (by decide) (by decide)) (tr_w h_i_at (by decide) (by decide)) (tr_w h_i_token (by decide) (by decide)) (tr_w h_i_number (by decide) (by decide)) (tr_w h_i_letterMany (by decide) (by decide)) (tr_w h_i_faultAt (by decide) (by decide)) (tr_w h_i_isKnown (by decide) (by decide)) (tr_w h_i_toldMany (by decide) (by decide)) (tr_wa h_tf (by decide) (by decide))) (cwV 1 hts (tz_gV qw_7 qw_8 qw_9 qw_3 qw_10) rfl rfl rfl (by decide +kernel) ⟨Nat.le_of_ble_eq_true rfl, Nat.le_of_ble_eq_true rfl⟩) ⟨tz_blQ, va_recv hK hPc (ci := 12) (q0 := 0) rfl rfl, tz_preQ hPc hK hDc⟩ rfl rfl hl.1 rfl (lv_room (Nat.le_of_ble_eq_true rfl)) dX12_feed_22 ⟨Nat.le_of_ble_eq_true rfl, Nat.le_of_ble_eq_true rfl⟩) hS (fun q _ h => hFc q h) hFc (fun u t H1 locs ht hvm hw hB hz1 hk1 hS => ?_)
    obtain ⟨o_length_58787, otf_58788, hf_58789, hf_58790, hf_58791, hf_58792, hP1, hD1⟩ := hB
    rw [ht] at hP1
    obtain ⟨hP, hD⟩ := va_join (wr := []) (w1 := [(wO12 mm 0 m_s m_spare m_kept m_undone m_triedWay m_isKept i_undoMany m_tape o_length_58787 i_size i_p i_at i_token i_number i_letterMany i_fault i_faultAt m_letters i_isKnown m_choice m_row m_up m_low m_m m_bestUp m_bestLow m_replyUp m_replyLow m_worthUp m_worthLow m_bestWay i_seed m_told i_toldMany), (wI g m_tape 2 440 otf_58788)]) hP hD [0, 1] [] rfl rfl (by decide) (by decide) hk1 hFc hP1 hD1
    generalize H1 = H at hP hS ⊢
    have hP : va_P D vwCl [(wO12 mm 0 m_s m_spare m_kept m_undone m_triedWay m_isKept i_undoMany m_tape o_length_58787 i_size i_p i_at i_token i_number i_letterMany i_fault i_faultAt m_letters i_isKnown m_choice m_row m_up m_low m_m m_bestUp m_bestLow m_replyUp m_replyLow m_worthUp m_worthLow m_bestWay i_seed m_told i_toldMany), (wI g m_tape 2 440 otf_58788)] H := hP
    have hD : va_D A [(wO12 mm 0 m_s m_spare m_kept m_undone m_triedWay m_isKept i_undoMany m_tape o_length_58787 i_size i_p i_at i_token i_number i_letterMany i_fault i_faultAt m_letters i_isKnown m_choice m_row m_up m_low m_m m_bestUp m_bestLow m_replyUp m_replyLow m_worthUp m_worthLow m_bestWay i_seed m_told i_toldMany), (wI g m_tape 2 440 otf_58788)] := hD
    refine lv_aload_n hx hb dX12_feed_25 rfl (lv_at hl 0 rfl) ?_
    refine lv_iload_n hx hb dX12_feed_26 rfl (lv_at hl 2 rfl) ?_
    have h_58793 : 0 ≤ (o_length_58787 : Int32).toInt ∧ (o_length_58787 : Int32).toInt ≤ 436 := by (first | (clear h_i_undoMany h_i_length h_i_size h_i_p h_i_at h_i_token h_i_number h_i_letterMany h_i_faultAt h_i_isKnown h_i_toldMany h_v_58781 q_v_58781 c_58782_i h_58783 h_58785; omega) | omega)
    have hPc := hP.sub (ws' := [(wO12 mm 0 m_s m_spare m_kept m_undone m_triedWay m_isKept i_undoMany m_tape o_length_58787 i_size i_p i_at i_token i_number i_letterMany i_fault i_faultAt m_letters i_isKnown m_choice m_row m_up m_low m_m m_bestUp m_bestLow m_replyUp m_replyLow m_worthUp m_worthLow m_bestWay i_seed m_told i_toldMany), (wI g m_tape 2 440 otf_58788)]) [0, 1] rfl
    have hDc := hD.sub (ws' := [(wO12 mm 0 m_s m_spare m_kept m_undone m_triedWay m_isKept i_undoMany m_tape o_length_58787 i_size i_p i_at i_token i_number i_letterMany i_fault i_faultAt m_letters i_isKnown m_choice m_row m_up m_low m_m m_bestUp m_bestLow m_replyUp m_replyLow m_worthUp m_worthLow m_bestWay i_seed m_told i_toldMany), (wI g m_tape 2 440 otf_58788)]) [0, 1] (by decide) rfl
    have hFc := va_free (wc := [(wO12 mm 0 m_s m_spare m_kept m_undone m_triedWay m_isKept i_undoMany m_tape o_length_58787 i_size i_p i_at i_token i_number i_letterMany i_fault i_faultAt m_letters i_isKnown m_choice m_row m_up m_low m_m m_bestUp m_bestLow m_replyUp m_replyLow m_worthUp m_worthLow m_bestWay i_seed m_told i_toldMany), (wI g m_tape 2 440 otf_58788)]) hD hS hA [0, 1] rfl
    refine va_callv (va_runV (As := [.int p1]) (rest := []) ⟨hx, hb, hml, hown, hts⟩ (c_X12_four2 l D g H.size mm p1 0 m_s m_spare m_kept m_undone m_triedWay m_isKept i_undoMany m_tape o_length_58787 i_size i_p i_at i_token i_number i_letterMany i_fault i_faultAt m_letters i_isKnown m_choice m_row m_up m_low m_m m_bestUp m_bestLow m_replyUp m_replyLow m_worthUp m_worthLow m_bestWay i_seed m_told i_toldMany otf_58788 (tr_w h_i_undoMany (by decide) (by decide)) (tr_w h_58793 (by decide) (by decide)) (tr_w h_i_size (by decide) (by decide)) (tr_w h_i_p (by decide) (by decide)) (tr_w h_i_at (by decide) (by decide)) (tr_w h_i_token (by decide) (by decide)) (tr_w h_i_number (by decide) (by decide)) (tr_w h_i_letterMany (by decide) (by decide)) (tr_w h_i_faultAt (by decide) (by decide)) (tr_w h_i_isKnown (by decide) (by decide)) (tr_w h_i_toldMany (by decide) (by decide)) (tr_wa hf_58790 (by decide) (by decide))) (cwV 1 hts (tz_gV qw_7 qw_8 qw_9 qw_3 qw_10) rfl rfl rfl (by decide +kernel) ⟨Nat.le_of_ble_eq_true rfl, Nat.le_of_ble_eq_true rfl⟩) ⟨tz_blQ, va_recv hK hPc (ci := 12) (q0 := 0) rfl rfl, tz_preQ hPc hK hDc⟩ rfl rfl hl.1 rfl (lv_room (Nat.le_of_ble_eq_true rfl)) dX12_feed_27 ⟨Nat.le_of_ble_eq_true rfl, Nat.le_of_ble_eq_true rfl⟩) hS (fun q _ h => hFc q h) hFc (fun u t H1 locs ht hvm hw hB hz1 hk1 hS => ?_)
    obtain ⟨o_length_58795, otf_58796, hf_58797, hf_58798, hf_58799, hf_58800, hP1, hD1⟩ := hB
    rw [ht] at hP1
    obtain ⟨hP, hD⟩ := va_join (wr := []) (w1 := [(wO12 mm 0 m_s m_spare m_kept m_undone m_triedWay m_isKept i_undoMany m_tape o_length_58795 i_size i_p i_at i_token i_number i_letterMany i_fault i_faultAt m_letters i_isKnown m_choice m_row m_up m_low m_m m_bestUp m_bestLow m_replyUp m_replyLow m_worthUp m_worthLow m_bestWay i_seed m_told i_toldMany), (wI g m_tape 2 440 otf_58796)]) hP hD [0, 1] [] rfl rfl (by decide) (by decide) hk1 hFc hP1 hD1
    generalize H1 = H at hP hS ⊢
    have hP : va_P D vwCl [(wO12 mm 0 m_s m_spare m_kept m_undone m_triedWay m_isKept i_undoMany m_tape o_length_58795 i_size i_p i_at i_token i_number i_letterMany i_fault i_faultAt m_letters i_isKnown m_choice m_row m_up m_low m_m m_bestUp m_bestLow m_replyUp m_replyLow m_worthUp m_worthLow m_bestWay i_seed m_told i_toldMany), (wI g m_tape 2 440 otf_58796)] H := hP
    have hD : va_D A [(wO12 mm 0 m_s m_spare m_kept m_undone m_triedWay m_isKept i_undoMany m_tape o_length_58795 i_size i_p i_at i_token i_number i_letterMany i_fault i_faultAt m_letters i_isKnown m_choice m_row m_up m_low m_m m_bestUp m_bestLow m_replyUp m_replyLow m_worthUp m_worthLow m_bestWay i_seed m_told i_toldMany), (wI g m_tape 2 440 otf_58796)] := hD
    refine lv_aload_n hx hb dX12_feed_30 rfl (lv_at hl 0 rfl) ?_
    refine lv_iload_n hx hb dX12_feed_31 rfl (lv_at hl 3 rfl) ?_
    have h_58801 : 0 ≤ (o_length_58795 : Int32).toInt ∧ (o_length_58795 : Int32).toInt ≤ 436 := by (first | (clear h_i_undoMany h_i_length h_i_size h_i_p h_i_at h_i_token h_i_number h_i_letterMany h_i_faultAt h_i_isKnown h_i_toldMany h_v_58781 q_v_58781 c_58782_i h_58783 h_58785 h_58793; omega) | omega)
    have hPc := hP.sub (ws' := [(wO12 mm 0 m_s m_spare m_kept m_undone m_triedWay m_isKept i_undoMany m_tape o_length_58795 i_size i_p i_at i_token i_number i_letterMany i_fault i_faultAt m_letters i_isKnown m_choice m_row m_up m_low m_m m_bestUp m_bestLow m_replyUp m_replyLow m_worthUp m_worthLow m_bestWay i_seed m_told i_toldMany), (wI g m_tape 2 440 otf_58796)]) [0, 1] rfl
    have hDc := hD.sub (ws' := [(wO12 mm 0 m_s m_spare m_kept m_undone m_triedWay m_isKept i_undoMany m_tape o_length_58795 i_size i_p i_at i_token i_number i_letterMany i_fault i_faultAt m_letters i_isKnown m_choice m_row m_up m_low m_m m_bestUp m_bestLow m_replyUp m_replyLow m_worthUp m_worthLow m_bestWay i_seed m_told i_toldMany), (wI g m_tape 2 440 otf_58796)]) [0, 1] (by decide) rfl
    have hFc := va_free (wc := [(wO12 mm 0 m_s m_spare m_kept m_undone m_triedWay m_isKept i_undoMany m_tape o_length_58795 i_size i_p i_at i_token i_number i_letterMany i_fault i_faultAt m_letters i_isKnown m_choice m_row m_up m_low m_m m_bestUp m_bestLow m_replyUp m_replyLow m_worthUp m_worthLow m_bestWay i_seed m_told i_toldMany), (wI g m_tape 2 440 otf_58796)]) hD hS hA [0, 1] rfl
    refine va_callv (va_runV (As := [.int p2]) (rest := []) ⟨hx, hb, hml, hown, hts⟩ (c_X12_four2 l D g H.size mm p2 0 m_s m_spare m_kept m_undone m_triedWay m_isKept i_undoMany m_tape o_length_58795 i_size i_p i_at i_token i_number i_letterMany i_fault i_faultAt m_letters i_isKnown m_choice m_row m_up m_low m_m m_bestUp m_bestLow m_replyUp m_replyLow m_worthUp m_worthLow m_bestWay i_seed m_told i_toldMany otf_58796 (tr_w h_i_undoMany (by decide) (by decide)) (tr_w h_58801 (by decide) (by decide)) (tr_w h_i_size (by decide) (by decide)) (tr_w h_i_p (by decide) (by decide)) (tr_w h_i_at (by decide) (by decide)) (tr_w h_i_token (by decide) (by decide)) (tr_w h_i_number (by decide) (by decide)) (tr_w h_i_letterMany (by decide) (by decide)) (tr_w h_i_faultAt (by decide) (by decide)) (tr_w h_i_isKnown (by decide) (by decide)) (tr_w h_i_toldMany (by decide) (by decide)) (tr_wa hf_58798 (by decide) (by decide))) (cwV 1 hts (tz_gV qw_7 qw_8 qw_9 qw_3 qw_10) rfl rfl rfl (by decide +kernel) ⟨Nat.le_of_ble_eq_true rfl, Nat.le_of_ble_eq_true rfl⟩) ⟨tz_blQ, va_recv hK hPc (ci := 12) (q0 := 0) rfl rfl, tz_preQ hPc hK hDc⟩ rfl rfl hl.1 rfl (lv_room (Nat.le_of_ble_eq_true rfl)) dX12_feed_32 ⟨Nat.le_of_ble_eq_true rfl, Nat.le_of_ble_eq_true rfl⟩) hS (fun q _ h => hFc q h) hFc (fun u t H1 locs ht hvm hw hB hz1 hk1 hS => ?_)
    obtain ⟨o_length_58803, otf_58804, hf_58805, hf_58806, hf_58807, hf_58808, hP1, hD1⟩ := hB
    rw [ht] at hP1
    obtain ⟨hP, hD⟩ := va_join (wr := []) (w1 := [(wO12 mm 0 m_s m_spare m_kept m_undone m_triedWay m_isKept i_undoMany m_tape o_length_58803 i_size i_p i_at i_token i_number i_letterMany i_fault i_faultAt m_letters i_isKnown m_choice m_row m_up m_low m_m m_bestUp m_bestLow m_replyUp m_replyLow m_worthUp m_worthLow m_bestWay i_seed m_told i_toldMany), (wI g m_tape 2 440 otf_58804)]) hP hD [0, 1] [] rfl rfl (by decide) (by decide) hk1 hFc hP1 hD1
    generalize H1 = H at hP hS ⊢
    have hP : va_P D vwCl [(wO12 mm 0 m_s m_spare m_kept m_undone m_triedWay m_isKept i_undoMany m_tape o_length_58803 i_size i_p i_at i_token i_number i_letterMany i_fault i_faultAt m_letters i_isKnown m_choice m_row m_up m_low m_m m_bestUp m_bestLow m_replyUp m_replyLow m_worthUp m_worthLow m_bestWay i_seed m_told i_toldMany), (wI g m_tape 2 440 otf_58804)] H := hP
    have hD : va_D A [(wO12 mm 0 m_s m_spare m_kept m_undone m_triedWay m_isKept i_undoMany m_tape o_length_58803 i_size i_p i_at i_token i_number i_letterMany i_fault i_faultAt m_letters i_isKnown m_choice m_row m_up m_low m_m m_bestUp m_bestLow m_replyUp m_replyLow m_worthUp m_worthLow m_bestWay i_seed m_told i_toldMany), (wI g m_tape 2 440 otf_58804)] := hD
    refine lv_aload_n hx hb dX12_feed_35 rfl (lv_at hl 0 rfl) ?_
    refine lv_iload hx hb dX12_feed_36 (lv_at hl 4 rfl) ?_
    have h_58809 : 0 ≤ (o_length_58803 : Int32).toInt ∧ (o_length_58803 : Int32).toInt ≤ 436 := by (first | (clear h_i_undoMany h_i_length h_i_size h_i_p h_i_at h_i_token h_i_number h_i_letterMany h_i_faultAt h_i_isKnown h_i_toldMany h_v_58781 q_v_58781 c_58782_i h_58783 h_58785 h_58793 h_58801; omega) | omega)
    have hPc := hP.sub (ws' := [(wO12 mm 0 m_s m_spare m_kept m_undone m_triedWay m_isKept i_undoMany m_tape o_length_58803 i_size i_p i_at i_token i_number i_letterMany i_fault i_faultAt m_letters i_isKnown m_choice m_row m_up m_low m_m m_bestUp m_bestLow m_replyUp m_replyLow m_worthUp m_worthLow m_bestWay i_seed m_told i_toldMany), (wI g m_tape 2 440 otf_58804)]) [0, 1] rfl
    have hDc := hD.sub (ws' := [(wO12 mm 0 m_s m_spare m_kept m_undone m_triedWay m_isKept i_undoMany m_tape o_length_58803 i_size i_p i_at i_token i_number i_letterMany i_fault i_faultAt m_letters i_isKnown m_choice m_row m_up m_low m_m m_bestUp m_bestLow m_replyUp m_replyLow m_worthUp m_worthLow m_bestWay i_seed m_told i_toldMany), (wI g m_tape 2 440 otf_58804)]) [0, 1] (by decide) rfl
    have hFc := va_free (wc := [(wO12 mm 0 m_s m_spare m_kept m_undone m_triedWay m_isKept i_undoMany m_tape o_length_58803 i_size i_p i_at i_token i_number i_letterMany i_fault i_faultAt m_letters i_isKnown m_choice m_row m_up m_low m_m m_bestUp m_bestLow m_replyUp m_replyLow m_worthUp m_worthLow m_bestWay i_seed m_told i_toldMany), (wI g m_tape 2 440 otf_58804)]) hD hS hA [0, 1] rfl
    refine va_callv (va_runV (As := [.int p3]) (rest := []) ⟨hx, hb, hml, hown, hts⟩ (c_X12_four2 l D g H.size mm p3 0 m_s m_spare m_kept m_undone m_triedWay m_isKept i_undoMany m_tape o_length_58803 i_size i_p i_at i_token i_number i_letterMany i_fault i_faultAt m_letters i_isKnown m_choice m_row m_up m_low m_m m_bestUp m_bestLow m_replyUp m_replyLow m_worthUp m_worthLow m_bestWay i_seed m_told i_toldMany otf_58804 (tr_w h_i_undoMany (by decide) (by decide)) (tr_w h_58809 (by decide) (by decide)) (tr_w h_i_size (by decide) (by decide)) (tr_w h_i_p (by decide) (by decide)) (tr_w h_i_at (by decide) (by decide)) (tr_w h_i_token (by decide) (by decide)) (tr_w h_i_number (by decide) (by decide)) (tr_w h_i_letterMany (by decide) (by decide)) (tr_w h_i_faultAt (by decide) (by decide)) (tr_w h_i_isKnown (by decide) (by decide)) (tr_w h_i_toldMany (by decide) (by decide)) (tr_wa hf_58806 (by decide) (by decide))) (cwV 1 hts (tz_gV qw_7 qw_8 qw_9 qw_3 qw_10) rfl rfl rfl (by decide +kernel) ⟨Nat.le_of_ble_eq_true rfl, Nat.le_of_ble_eq_true rfl⟩) ⟨tz_blQ, va_recv hK hPc (ci := 12) (q0 := 0) rfl rfl, tz_preQ hPc hK hDc⟩ rfl rfl hl.1 rfl (lv_room (Nat.le_of_ble_eq_true rfl)) dX12_feed_38 ⟨Nat.le_of_ble_eq_true rfl, Nat.le_of_ble_eq_true rfl⟩) hS (fun q _ h => hFc q h) hFc (fun u t H1 locs ht hvm hw hB hz1 hk1 hS => ?_)
    obtain ⟨o_length_58811, otf_58812, hf_58813, hf_58814, hf_58815, hf_58816, hP1, hD1⟩ := hB
    rw [ht] at hP1
    obtain ⟨hP, hD⟩ := va_join (wr := []) (w1 := [(wO12 mm 0 m_s m_spare m_kept m_undone m_triedWay m_isKept i_undoMany m_tape o_length_58811 i_size i_p i_at i_token i_number i_letterMany i_fault i_faultAt m_letters i_isKnown m_choice m_row m_up m_low m_m m_bestUp m_bestLow m_replyUp m_replyLow m_worthUp m_worthLow m_bestWay i_seed m_told i_toldMany), (wI g m_tape 2 440 otf_58812)]) hP hD [0, 1] [] rfl rfl (by decide) (by decide) hk1 hFc hP1 hD1
    generalize H1 = H at hP hS ⊢
    have hP : va_P D vwCl [(wO12 mm 0 m_s m_spare m_kept m_undone m_triedWay m_isKept i_undoMany m_tape o_length_58811 i_size i_p i_at i_token i_number i_letterMany i_fault i_faultAt m_letters i_isKnown m_choice m_row m_up m_low m_m m_bestUp m_bestLow m_replyUp m_replyLow m_worthUp m_worthLow m_bestWay i_seed m_told i_toldMany), (wI g m_tape 2 440 otf_58812)] H := hP
    have hD : va_D A [(wO12 mm 0 m_s m_spare m_kept m_undone m_triedWay m_isKept i_undoMany m_tape o_length_58811 i_size i_p i_at i_token i_number i_letterMany i_fault i_faultAt m_letters i_isKnown m_choice m_row m_up m_low m_m m_bestUp m_bestLow m_replyUp m_replyLow m_worthUp m_worthLow m_bestWay i_seed m_told i_toldMany), (wI g m_tape 2 440 otf_58812)] := hD
    refine lv_aload_n hx hb dX12_feed_41 rfl (lv_at hl 0 rfl) ?_
    refine lv_iload hx hb dX12_feed_42 (lv_at hl 5 rfl) ?_
    have h_58817 : 0 ≤ (o_length_58811 : Int32).toInt ∧ (o_length_58811 : Int32).toInt ≤ 436 := by (first | (clear h_i_undoMany h_i_length h_i_size h_i_p h_i_at h_i_token h_i_number h_i_letterMany h_i_faultAt h_i_isKnown h_i_toldMany h_v_58781 q_v_58781 c_58782_i h_58783 h_58785 h_58793 h_58801 h_58809; omega) | omega)
    have hPc := hP.sub (ws' := [(wO12 mm 0 m_s m_spare m_kept m_undone m_triedWay m_isKept i_undoMany m_tape o_length_58811 i_size i_p i_at i_token i_number i_letterMany i_fault i_faultAt m_letters i_isKnown m_choice m_row m_up m_low m_m m_bestUp m_bestLow m_replyUp m_replyLow m_worthUp m_worthLow m_bestWay i_seed m_told i_toldMany), (wI g m_tape 2 440 otf_58812)]) [0, 1] rfl
    have hDc := hD.sub (ws' := [(wO12 mm 0 m_s m_spare m_kept m_undone m_triedWay m_isKept i_undoMany m_tape o_length_58811 i_size i_p i_at i_token i_number i_letterMany i_fault i_faultAt m_letters i_isKnown m_choice m_row m_up m_low m_m m_bestUp m_bestLow m_replyUp m_replyLow m_worthUp m_worthLow m_bestWay i_seed m_told i_toldMany), (wI g m_tape 2 440 otf_58812)]) [0, 1] (by decide) rfl
    have hFc := va_free (wc := [(wO12 mm 0 m_s m_spare m_kept m_undone m_triedWay m_isKept i_undoMany m_tape o_length_58811 i_size i_p i_at i_token i_number i_letterMany i_fault i_faultAt m_letters i_isKnown m_choice m_row m_up m_low m_m m_bestUp m_bestLow m_replyUp m_replyLow m_worthUp m_worthLow m_bestWay i_seed m_told i_toldMany), (wI g m_tape 2 440 otf_58812)]) hD hS hA [0, 1] rfl
    refine va_callv (va_runV (As := [.int p4]) (rest := []) ⟨hx, hb, hml, hown, hts⟩ (c_X12_four2 l D g H.size mm p4 0 m_s m_spare m_kept m_undone m_triedWay m_isKept i_undoMany m_tape o_length_58811 i_size i_p i_at i_token i_number i_letterMany i_fault i_faultAt m_letters i_isKnown m_choice m_row m_up m_low m_m m_bestUp m_bestLow m_replyUp m_replyLow m_worthUp m_worthLow m_bestWay i_seed m_told i_toldMany otf_58812 (tr_w h_i_undoMany (by decide) (by decide)) (tr_w h_58817 (by decide) (by decide)) (tr_w h_i_size (by decide) (by decide)) (tr_w h_i_p (by decide) (by decide)) (tr_w h_i_at (by decide) (by decide)) (tr_w h_i_token (by decide) (by decide)) (tr_w h_i_number (by decide) (by decide)) (tr_w h_i_letterMany (by decide) (by decide)) (tr_w h_i_faultAt (by decide) (by decide)) (tr_w h_i_isKnown (by decide) (by decide)) (tr_w h_i_toldMany (by decide) (by decide)) (tr_wa hf_58814 (by decide) (by decide))) (cwV 1 hts (tz_gV qw_7 qw_8 qw_9 qw_3 qw_10) rfl rfl rfl (by decide +kernel) ⟨Nat.le_of_ble_eq_true rfl, Nat.le_of_ble_eq_true rfl⟩) ⟨tz_blQ, va_recv hK hPc (ci := 12) (q0 := 0) rfl rfl, tz_preQ hPc hK hDc⟩ rfl rfl hl.1 rfl (lv_room (Nat.le_of_ble_eq_true rfl)) dX12_feed_44 ⟨Nat.le_of_ble_eq_true rfl, Nat.le_of_ble_eq_true rfl⟩) hS (fun q _ h => hFc q h) hFc (fun u t H1 locs ht hvm hw hB hz1 hk1 hS => ?_)
    obtain ⟨o_length_58819, otf_58820, hf_58821, hf_58822, hf_58823, hf_58824, hP1, hD1⟩ := hB
    rw [ht] at hP1
    obtain ⟨hP, hD⟩ := va_join (wr := []) (w1 := [(wO12 mm 0 m_s m_spare m_kept m_undone m_triedWay m_isKept i_undoMany m_tape o_length_58819 i_size i_p i_at i_token i_number i_letterMany i_fault i_faultAt m_letters i_isKnown m_choice m_row m_up m_low m_m m_bestUp m_bestLow m_replyUp m_replyLow m_worthUp m_worthLow m_bestWay i_seed m_told i_toldMany), (wI g m_tape 2 440 otf_58820)]) hP hD [0, 1] [] rfl rfl (by decide) (by decide) hk1 hFc hP1 hD1
    generalize H1 = H at hP hS ⊢
    have hP : va_P D vwCl [(wO12 mm 0 m_s m_spare m_kept m_undone m_triedWay m_isKept i_undoMany m_tape o_length_58819 i_size i_p i_at i_token i_number i_letterMany i_fault i_faultAt m_letters i_isKnown m_choice m_row m_up m_low m_m m_bestUp m_bestLow m_replyUp m_replyLow m_worthUp m_worthLow m_bestWay i_seed m_told i_toldMany), (wI g m_tape 2 440 otf_58820)] H := hP
    have hD : va_D A [(wO12 mm 0 m_s m_spare m_kept m_undone m_triedWay m_isKept i_undoMany m_tape o_length_58819 i_size i_p i_at i_token i_number i_letterMany i_fault i_faultAt m_letters i_isKnown m_choice m_row m_up m_low m_m m_bestUp m_bestLow m_replyUp m_replyLow m_worthUp m_worthLow m_bestWay i_seed m_told i_toldMany), (wI g m_tape 2 440 otf_58820)] := hD
    refine lv_aload_n hx hb dX12_feed_47 rfl (lv_at hl 0 rfl) ?_
    refine va_get (D := D) (ci := 12) (v := .int o_length_58819) (C := RX12) (T := TX12) (N := 35) hx hb hts inlX12 hown hK hP 0 rfl rfl 9 (by decide) (hts (Cond.fieldLink RX12 82 "ChanceRingsModel" "length" "I") qw_6) (fun _ h9 => h9) rfl dX12_feed_48 ?_
    have hP9 := hP.sub (ws' := [(wO12 mm 0 m_s m_spare m_kept m_undone m_triedWay m_isKept i_undoMany m_tape o_length_58819 i_size i_p i_at i_token i_number i_letterMany i_fault i_faultAt m_letters i_isKnown m_choice m_row m_up m_low m_m m_bestUp m_bestLow m_replyUp m_replyLow m_worthUp m_worthLow m_bestWay i_seed m_told i_toldMany), (wI g m_tape 2 440 otf_58820)]) [0, 1] rfl
    have hD9 := hD.sub (ws' := [(wO12 mm 0 m_s m_spare m_kept m_undone m_triedWay m_isKept i_undoMany m_tape o_length_58819 i_size i_p i_at i_token i_number i_letterMany i_fault i_faultAt m_letters i_isKnown m_choice m_row m_up m_low m_m m_bestUp m_bestLow m_replyUp m_replyLow m_worthUp m_worthLow m_bestWay i_seed m_told i_toldMany), (wI g m_tape 2 440 otf_58820)]) [0, 1] (by decide) rfl
    exact W.iret (v := o_length_58819) hx hb hr (fun t ht hW => ⟨⟨o_length_58819, (), rfl, ⟨(tr_w hf_58821 (by decide) (by decide)), (by have z_0 := tk_0; have z_1 := tk_1; (first | (clear h_i_undoMany h_i_length h_i_size h_i_p h_i_at h_i_token h_i_number h_i_letterMany h_i_faultAt h_i_isKnown h_i_toldMany h_v_58781 q_v_58781 c_58782_i h_58783 h_58785 h_58793 h_58801 h_58809 h_58817; omega) | omega))⟩, 0, o_length_58819, otf_58820, (tr_w hf_58821 (by decide) (by decide)), (tr_wa hf_58822 (by decide) (by decide)), (by have z_0 := tk_0; have z_1 := tk_1; (first | (clear h_i_undoMany h_i_length h_i_size h_i_p h_i_at h_i_token h_i_number h_i_letterMany h_i_faultAt h_i_isKnown h_i_toldMany h_v_58781 q_v_58781 c_58782_i h_58783 h_58785 h_58793 h_58801 h_58809 h_58817; omega) | omega)), ⟨fun _ => ap20_of hf_58792 hf_58800 hf_58808 hf_58816 hf_58824 (by (first | (clear h_i_undoMany h_i_length h_i_size h_i_p h_i_at h_i_token h_i_number h_i_letterMany h_i_faultAt h_i_isKnown h_i_toldMany h_v_58781 q_v_58781 c_58782_i h_58783 h_58785 h_58793 h_58801 h_58809 h_58817; omega) | omega)) (by (first | (clear h_i_undoMany h_i_length h_i_size h_i_p h_i_at h_i_token h_i_number h_i_letterMany h_i_faultAt h_i_isKnown h_i_toldMany h_v_58781 q_v_58781 c_58782_i h_58783 h_58785 h_58793 h_58801 h_58809 h_58817; omega) | omega)) (by (first | (clear h_i_undoMany h_i_length h_i_size h_i_p h_i_at h_i_token h_i_number h_i_letterMany h_i_faultAt h_i_isKnown h_i_toldMany h_v_58781 q_v_58781 c_58782_i h_58783 h_58785 h_58793 h_58801 h_58809 h_58817; omega) | omega)) (by (first | (clear h_i_undoMany h_i_length h_i_size h_i_p h_i_at h_i_token h_i_number h_i_letterMany h_i_faultAt h_i_isKnown h_i_toldMany h_v_58781 q_v_58781 c_58782_i h_58783 h_58785 h_58793 h_58801 h_58809 h_58817; omega) | omega)), fun h9 => absurd h9 (by (first | (clear h_i_undoMany h_i_length h_i_size h_i_p h_i_at h_i_token h_i_number h_i_letterMany h_i_faultAt h_i_isKnown h_i_toldMany h_v_58781 q_v_58781 c_58782_i h_58783 h_58785 h_58793 h_58801 h_58809 h_58817; omega) | omega))⟩, by rw [ht]; exact hP9, hD9⟩, hS.F ht⟩) hS.2.2 dX12_feed_51
  · skip
    have kk_440 := tk_440
    have c_58782_i := Int32.lt_iff_toInt_lt.mp (Int32.not_le.mp c_58782)
    have h_58784 : 441 ≤ (v_58781 : Int32).toInt ∧ (v_58781 : Int32).toInt ≤ 460 := nr_lt_r (⟨by decide, by decide⟩ : 440 ≤ (440 : Int32).toInt ∧ (440 : Int32).toInt ≤ 440) h_v_58781 c_58782_i (by decide) (by decide)
    refine lv_iconst (v := (-1)) hx hb dX12_feed_18 (by decide) ?_
    have hP9 := hP.sub (ws' := [(wO12 mm 0 m_s m_spare m_kept m_undone m_triedWay m_isKept i_undoMany m_tape i_length i_size i_p i_at i_token i_number i_letterMany i_fault i_faultAt m_letters i_isKnown m_choice m_row m_up m_low m_m m_bestUp m_bestLow m_replyUp m_replyLow m_worthUp m_worthLow m_bestWay i_seed m_told i_toldMany), (wI g m_tape 2 440 tf)]) [0, 1] rfl
    have hD9 := hD.sub (ws' := [(wO12 mm 0 m_s m_spare m_kept m_undone m_triedWay m_isKept i_undoMany m_tape i_length i_size i_p i_at i_token i_number i_letterMany i_fault i_faultAt m_letters i_isKnown m_choice m_row m_up m_low m_m m_bestUp m_bestLow m_replyUp m_replyLow m_worthUp m_worthLow m_bestWay i_seed m_told i_toldMany), (wI g m_tape 2 440 tf)]) [0, 1] (by decide) rfl
    exact W.iret (v := (-1)) hx hb hr (fun t ht hW => ⟨⟨(-1), (), rfl, ⟨(⟨by decide, by decide⟩ : (-1) ≤ ((-1) : Int32).toInt ∧ ((-1) : Int32).toInt ≤ 440), (by have z_m1 := tk_m1; have z_0 := tk_0; have z_1 := tk_1; (first | (clear h_i_undoMany h_i_size h_i_p h_i_at h_i_token h_i_number h_i_letterMany h_i_faultAt h_i_isKnown h_i_toldMany; omega) | omega))⟩, 0, i_length, tf, (tr_w h_i_length (by decide) (by decide)), (tr_wa h_tf (by decide) (by decide)), (by have z_0 := tk_0; have z_1 := tk_1; (first | (clear h_i_undoMany h_i_size h_i_p h_i_at h_i_token h_i_number h_i_letterMany h_i_faultAt h_i_isKnown h_i_toldMany; omega) | omega)), ⟨fun h9 => absurd h9 (by (first | (clear h_i_undoMany h_i_size h_i_p h_i_at h_i_token h_i_number h_i_letterMany h_i_faultAt h_i_isKnown h_i_toldMany; omega) | omega)), fun _ => rfl⟩, by rw [ht]; exact hP9, hD9⟩, hS.F ht⟩) hS.2.2 dX12_feed_19
theorem qw_313 : Cond.fieldLink RX2 33 "ChanceRings$Net" "nodes" "I" ∈ wsL_law := tseg_1 (by decide +kernel) (List.mem_of_getElem? (i := 54) rfl)
theorem qw_314 : Cond.fieldLink RX2 24 "ChanceRings$Net" "held" "[I" ∈ wsL_law := tseg_1 (by decide +kernel) (List.mem_of_getElem? (i := 85) rfl)
theorem qw_315 : Cond.fieldLink RX2 27 "ChanceRings$Net" "targets" "[I" ∈ wsL_law := tseg_1 (by decide +kernel) (List.mem_of_getElem? (i := 89) rfl)
theorem qw_316 : Cond.fieldLink RX2 9 "ChanceRings$Net" "kind" "[I" ∈ wsL_law := tseg_1 (by decide +kernel) (List.mem_of_getElem? (i := 62) rfl)
theorem qw_317 : Cond.fieldLink RX2 15 "ChanceRings$Net" "pay" "[I" ∈ wsL_law := tseg_1 (by decide +kernel) (List.mem_of_getElem? (i := 70) rfl)
theorem qw_318 : Cond.fieldLink RX2 21 "ChanceRings$Net" "ways" "[I" ∈ wsL_law := tseg_1 (by decide +kernel) (List.mem_of_getElem? (i := 78) rfl)
theorem qw_319 : Cond.methodLink RX2 47 yX2_canTake ∈ wsL_law := tseg_3 (by decide +kernel) (List.mem_of_getElem? (i := 113) rfl)
theorem qw_320 : Cond.instanceMethod yX2_canTake ∈ wsL_law := tseg_3 (by decide +kernel) (List.mem_of_getElem? (i := 114) rfl)
theorem qw_321 : Cond.selects RX2 yX2_canTake yX2_canTake ∈ wsL_law := tseg_3 (by decide +kernel) (List.mem_of_getElem? (i := 115) rfl)
theorem qw_322 : Cond.initialized RX2 ∈ wsL_law := tseg_1 (by decide +kernel) (List.mem_of_getElem? (i := 3) rfl)
theorem qw_323 : Cond.code yX2_canTake cX2_canTake 3 (some .boolean) ∈ wsL_law := tseg_3 (by decide +kernel) (List.mem_of_getElem? (i := 116) rfl)
theorem qw_324 : Cond.methodLink RX2 51 yX2_target ∈ wsL_law := tseg_3 (by decide +kernel) (List.mem_of_getElem? (i := 117) rfl)
theorem qw_325 : Cond.instanceMethod yX2_target ∈ wsL_law := tseg_3 (by decide +kernel) (List.mem_of_getElem? (i := 118) rfl)
theorem qw_326 : Cond.selects RX2 yX2_target yX2_target ∈ wsL_law := tseg_3 (by decide +kernel) (List.mem_of_getElem? (i := 119) rfl)
theorem qw_327 : Cond.code yX2_target cX2_target 3 (some .int) ∈ wsL_law := tseg_3 (by decide +kernel) (List.mem_of_getElem? (i := 120) rfl)
theorem qw_328 : Cond.methodLink RX2 43 yX2_has ∈ wsL_law := tseg_3 (by decide +kernel) (List.mem_of_getElem? (i := 84) rfl)
theorem qw_329 : Cond.instanceMethod yX2_has ∈ wsL_law := tseg_3 (by decide +kernel) (List.mem_of_getElem? (i := 85) rfl)
theorem qw_330 : Cond.selects RX2 yX2_has yX2_has ∈ wsL_law := tseg_3 (by decide +kernel) (List.mem_of_getElem? (i := 86) rfl)
theorem qw_331 : Cond.code yX2_has cX2_has 2 (some .boolean) ∈ wsL_law := tseg_3 (by decide +kernel) (List.mem_of_getElem? (i := 87) rfl)
theorem qw_332 : Cond.fieldLink RX2 30 "ChanceRings$Net" "weights" "[I" ∈ wsL_law := tseg_1 (by decide +kernel) (List.mem_of_getElem? (i := 90) rfl)
theorem dX2_canTake_0 : decode cX2_canTake 0 = .ok (.aload_n 0, 1) := by decide +kernel
theorem dX2_canTake_1 : decode cX2_canTake 1 = .ok (.getfield 24, 3) := by decide +kernel
theorem dX2_canTake_4 : decode cX2_canTake 4 = .ok (.iload_n 1, 1) := by decide +kernel
theorem dX2_canTake_5 : decode cX2_canTake 5 = .ok (.iaload, 1) := by decide +kernel
theorem dX2_canTake_6 : decode cX2_canTake 6 = .ok (.iconst (-1), 1) := by decide +kernel
theorem dX2_canTake_7 : decode cX2_canTake 7 = .ok (.if_icmp .eq 13, 3) := by decide +kernel
theorem dX2_canTake_10 : decode cX2_canTake 10 = .ok (.aload_n 0, 1) := by decide +kernel
theorem dX2_canTake_11 : decode cX2_canTake 11 = .ok (.getfield 24, 3) := by decide +kernel
theorem dX2_canTake_14 : decode cX2_canTake 14 = .ok (.iload_n 1, 1) := by decide +kernel
theorem dX2_canTake_15 : decode cX2_canTake 15 = .ok (.iaload, 1) := by decide +kernel
theorem dX2_canTake_16 : decode cX2_canTake 16 = .ok (.iload_n 2, 1) := by decide +kernel
theorem dX2_canTake_17 : decode cX2_canTake 17 = .ok (.if_icmp .ne 7, 3) := by decide +kernel
theorem dX2_canTake_20 : decode cX2_canTake 20 = .ok (.iconst 1, 1) := by decide +kernel
theorem dX2_canTake_21 : decode cX2_canTake 21 = .ok (.goto 4, 3) := by decide +kernel
theorem dX2_canTake_24 : decode cX2_canTake 24 = .ok (.iconst 0, 1) := by decide +kernel
theorem dX2_canTake_25 : decode cX2_canTake 25 = .ok (.ireturn, 1) := by decide +kernel
theorem dX2_countTakable_0 : decode cX2_countTakable 0 = .ok (.aload_n 0, 1) := by decide +kernel
theorem dX2_countTakable_1 : decode cX2_countTakable 1 = .ok (.getfield 24, 3) := by decide +kernel
theorem dX2_countTakable_4 : decode cX2_countTakable 4 = .ok (.iload_n 1, 1) := by decide +kernel
theorem dX2_countTakable_5 : decode cX2_countTakable 5 = .ok (.iaload, 1) := by decide +kernel
theorem dX2_countTakable_6 : decode cX2_countTakable 6 = .ok (.iconst (-1), 1) := by decide +kernel
theorem dX2_countTakable_7 : decode cX2_countTakable 7 = .ok (.if_icmp .ne 12, 3) := by decide +kernel
theorem dX2_countTakable_10 : decode cX2_countTakable 10 = .ok (.aload_n 0, 1) := by decide +kernel
theorem dX2_countTakable_11 : decode cX2_countTakable 11 = .ok (.getfield 21, 3) := by decide +kernel
theorem dX2_countTakable_14 : decode cX2_countTakable 14 = .ok (.iload_n 1, 1) := by decide +kernel
theorem dX2_countTakable_15 : decode cX2_countTakable 15 = .ok (.iaload, 1) := by decide +kernel
theorem dX2_countTakable_16 : decode cX2_countTakable 16 = .ok (.goto 4, 3) := by decide +kernel
theorem dX2_countTakable_19 : decode cX2_countTakable 19 = .ok (.iconst 1, 1) := by decide +kernel
theorem dX2_countTakable_20 : decode cX2_countTakable 20 = .ok (.ireturn, 1) := by decide +kernel
theorem dX2_countWays_0 : decode cX2_countWays 0 = .ok (.iconst 0, 1) := by decide +kernel
theorem dX2_countWays_1 : decode cX2_countWays 1 = .ok (.istore_n 1, 1) := by decide +kernel
theorem dX2_countWays_2 : decode cX2_countWays 2 = .ok (.iconst 0, 1) := by decide +kernel
theorem dX2_countWays_3 : decode cX2_countWays 3 = .ok (.istore_n 2, 1) := by decide +kernel
theorem dX2_countWays_4 : decode cX2_countWays 4 = .ok (.iload_n 2, 1) := by decide +kernel
theorem dX2_countWays_5 : decode cX2_countWays 5 = .ok (.aload_n 0, 1) := by decide +kernel
theorem dX2_countWays_6 : decode cX2_countWays 6 = .ok (.getfield 33, 3) := by decide +kernel
theorem dX2_countWays_9 : decode cX2_countWays 9 = .ok (.if_icmp .ge 18, 3) := by decide +kernel
theorem dX2_countWays_12 : decode cX2_countWays 12 = .ok (.iload_n 1, 1) := by decide +kernel
theorem dX2_countWays_13 : decode cX2_countWays 13 = .ok (.aload_n 0, 1) := by decide +kernel
theorem dX2_countWays_14 : decode cX2_countWays 14 = .ok (.getfield 21, 3) := by decide +kernel
theorem dX2_countWays_17 : decode cX2_countWays 17 = .ok (.iload_n 2, 1) := by decide +kernel
theorem dX2_countWays_18 : decode cX2_countWays 18 = .ok (.iaload, 1) := by decide +kernel
theorem dX2_countWays_19 : decode cX2_countWays 19 = .ok (.iadd, 1) := by decide +kernel
theorem dX2_countWays_20 : decode cX2_countWays 20 = .ok (.istore_n 1, 1) := by decide +kernel
theorem dX2_countWays_21 : decode cX2_countWays 21 = .ok (.iinc 2 1, 3) := by decide +kernel
theorem dX2_countWays_24 : decode cX2_countWays 24 = .ok (.goto (-20), 3) := by decide +kernel
theorem dX2_countWays_27 : decode cX2_countWays 27 = .ok (.iload_n 1, 1) := by decide +kernel
theorem dX2_countWays_28 : decode cX2_countWays 28 = .ok (.ireturn, 1) := by decide +kernel
theorem dX2_has_0 : decode cX2_has 0 = .ok (.iload_n 1, 1) := by decide +kernel
theorem dX2_has_1 : decode cX2_has 1 = .ok (.ifCond .lt 15, 3) := by decide +kernel
theorem dX2_has_4 : decode cX2_has 4 = .ok (.iload_n 1, 1) := by decide +kernel
theorem dX2_has_5 : decode cX2_has 5 = .ok (.aload_n 0, 1) := by decide +kernel
theorem dX2_has_6 : decode cX2_has 6 = .ok (.getfield 33, 3) := by decide +kernel
theorem dX2_has_9 : decode cX2_has 9 = .ok (.if_icmp .ge 7, 3) := by decide +kernel
theorem dX2_has_12 : decode cX2_has 12 = .ok (.iconst 1, 1) := by decide +kernel
theorem dX2_has_13 : decode cX2_has 13 = .ok (.goto 4, 3) := by decide +kernel
theorem dX2_has_16 : decode cX2_has 16 = .ok (.iconst 0, 1) := by decide +kernel
theorem dX2_has_17 : decode cX2_has 17 = .ok (.ireturn, 1) := by decide +kernel
theorem dX2_hasWay_0 : decode cX2_hasWay 0 = .ok (.aload_n 0, 1) := by decide +kernel
theorem dX2_hasWay_1 : decode cX2_hasWay 1 = .ok (.iload_n 1, 1) := by decide +kernel
theorem dX2_hasWay_2 : decode cX2_hasWay 2 = .ok (.invokevirtual 43, 3) := by decide +kernel
theorem dX2_hasWay_5 : decode cX2_hasWay 5 = .ok (.ifCond .eq 21, 3) := by decide +kernel
theorem dX2_hasWay_8 : decode cX2_hasWay 8 = .ok (.iload_n 2, 1) := by decide +kernel
theorem dX2_hasWay_9 : decode cX2_hasWay 9 = .ok (.ifCond .lt 17, 3) := by decide +kernel
theorem dX2_hasWay_12 : decode cX2_hasWay 12 = .ok (.iload_n 2, 1) := by decide +kernel
theorem dX2_hasWay_13 : decode cX2_hasWay 13 = .ok (.aload_n 0, 1) := by decide +kernel
theorem dX2_hasWay_14 : decode cX2_hasWay 14 = .ok (.getfield 21, 3) := by decide +kernel
theorem dX2_hasWay_17 : decode cX2_hasWay 17 = .ok (.iload_n 1, 1) := by decide +kernel
theorem dX2_hasWay_18 : decode cX2_hasWay 18 = .ok (.iaload, 1) := by decide +kernel
theorem dX2_hasWay_19 : decode cX2_hasWay 19 = .ok (.if_icmp .ge 7, 3) := by decide +kernel
theorem dX2_hasWay_22 : decode cX2_hasWay 22 = .ok (.iconst 1, 1) := by decide +kernel
theorem dX2_hasWay_23 : decode cX2_hasWay 23 = .ok (.goto 4, 3) := by decide +kernel
theorem dX2_hasWay_26 : decode cX2_hasWay 26 = .ok (.iconst 0, 1) := by decide +kernel
theorem dX2_hasWay_27 : decode cX2_hasWay 27 = .ok (.ireturn, 1) := by decide +kernel
theorem dX2_heldNodes_0 : decode cX2_heldNodes 0 = .ok (.iconst 0, 1) := by decide +kernel
theorem dX2_heldNodes_1 : decode cX2_heldNodes 1 = .ok (.istore_n 1, 1) := by decide +kernel
theorem dX2_heldNodes_2 : decode cX2_heldNodes 2 = .ok (.iconst 0, 1) := by decide +kernel
theorem dX2_heldNodes_3 : decode cX2_heldNodes 3 = .ok (.istore_n 2, 1) := by decide +kernel
theorem dX2_heldNodes_4 : decode cX2_heldNodes 4 = .ok (.iload_n 2, 1) := by decide +kernel
theorem dX2_heldNodes_5 : decode cX2_heldNodes 5 = .ok (.aload_n 0, 1) := by decide +kernel
theorem dX2_heldNodes_6 : decode cX2_heldNodes 6 = .ok (.getfield 33, 3) := by decide +kernel
theorem dX2_heldNodes_9 : decode cX2_heldNodes 9 = .ok (.if_icmp .ge 25, 3) := by decide +kernel
theorem dX2_heldNodes_12 : decode cX2_heldNodes 12 = .ok (.aload_n 0, 1) := by decide +kernel
theorem dX2_heldNodes_13 : decode cX2_heldNodes 13 = .ok (.getfield 24, 3) := by decide +kernel
theorem dX2_heldNodes_16 : decode cX2_heldNodes 16 = .ok (.iload_n 2, 1) := by decide +kernel
theorem dX2_heldNodes_17 : decode cX2_heldNodes 17 = .ok (.iaload, 1) := by decide +kernel
theorem dX2_heldNodes_18 : decode cX2_heldNodes 18 = .ok (.iconst (-1), 1) := by decide +kernel
theorem dX2_heldNodes_19 : decode cX2_heldNodes 19 = .ok (.if_icmp .eq 9, 3) := by decide +kernel
theorem dX2_heldNodes_22 : decode cX2_heldNodes 22 = .ok (.iload_n 1, 1) := by decide +kernel
theorem dX2_heldNodes_23 : decode cX2_heldNodes 23 = .ok (.iconst 1, 1) := by decide +kernel
theorem dX2_heldNodes_24 : decode cX2_heldNodes 24 = .ok (.iload_n 2, 1) := by decide +kernel
theorem dX2_heldNodes_25 : decode cX2_heldNodes 25 = .ok (.ishl, 1) := by decide +kernel
theorem dX2_heldNodes_26 : decode cX2_heldNodes 26 = .ok (.ior, 1) := by decide +kernel
theorem dX2_heldNodes_27 : decode cX2_heldNodes 27 = .ok (.istore_n 1, 1) := by decide +kernel
theorem dX2_heldNodes_28 : decode cX2_heldNodes 28 = .ok (.iinc 2 1, 3) := by decide +kernel
theorem dX2_heldNodes_31 : decode cX2_heldNodes 31 = .ok (.goto (-27), 3) := by decide +kernel
theorem dX2_heldNodes_34 : decode cX2_heldNodes 34 = .ok (.iload_n 1, 1) := by decide +kernel
theorem dX2_heldNodes_35 : decode cX2_heldNodes 35 = .ok (.ireturn, 1) := by decide +kernel
theorem dX2_isChooser_0 : decode cX2_isChooser 0 = .ok (.aload_n 0, 1) := by decide +kernel
theorem dX2_isChooser_1 : decode cX2_isChooser 1 = .ok (.iload_n 1, 1) := by decide +kernel
theorem dX2_isChooser_2 : decode cX2_isChooser 2 = .ok (.invokevirtual 43, 3) := by decide +kernel
theorem dX2_isChooser_5 : decode cX2_isChooser 5 = .ok (.ifCond .eq 27, 3) := by decide +kernel
theorem dX2_isChooser_8 : decode cX2_isChooser 8 = .ok (.aload_n 0, 1) := by decide +kernel
theorem dX2_isChooser_9 : decode cX2_isChooser 9 = .ok (.getfield 9, 3) := by decide +kernel
theorem dX2_isChooser_12 : decode cX2_isChooser 12 = .ok (.iload_n 1, 1) := by decide +kernel
theorem dX2_isChooser_13 : decode cX2_isChooser 13 = .ok (.iaload, 1) := by decide +kernel
theorem dX2_isChooser_14 : decode cX2_isChooser 14 = .ok (.iconst 1, 1) := by decide +kernel
theorem dX2_isChooser_15 : decode cX2_isChooser 15 = .ok (.if_icmp .eq 13, 3) := by decide +kernel
theorem dX2_isChooser_18 : decode cX2_isChooser 18 = .ok (.aload_n 0, 1) := by decide +kernel
theorem dX2_isChooser_19 : decode cX2_isChooser 19 = .ok (.getfield 9, 3) := by decide +kernel
theorem dX2_isChooser_22 : decode cX2_isChooser 22 = .ok (.iload_n 1, 1) := by decide +kernel
theorem dX2_isChooser_23 : decode cX2_isChooser 23 = .ok (.iaload, 1) := by decide +kernel
theorem dX2_isChooser_24 : decode cX2_isChooser 24 = .ok (.iconst 2, 1) := by decide +kernel
theorem dX2_isChooser_25 : decode cX2_isChooser 25 = .ok (.if_icmp .ne 7, 3) := by decide +kernel
theorem dX2_isChooser_28 : decode cX2_isChooser 28 = .ok (.iconst 1, 1) := by decide +kernel
theorem dX2_isChooser_29 : decode cX2_isChooser 29 = .ok (.goto 4, 3) := by decide +kernel
theorem dX2_isChooser_32 : decode cX2_isChooser 32 = .ok (.iconst 0, 1) := by decide +kernel
theorem dX2_isChooser_33 : decode cX2_isChooser 33 = .ok (.ireturn, 1) := by decide +kernel
theorem dX2_nextNodes_0 : decode cX2_nextNodes 0 = .ok (.iconst 0, 1) := by decide +kernel
theorem dX2_nextNodes_1 : decode cX2_nextNodes 1 = .ok (.istore_n 2, 1) := by decide +kernel
theorem dX2_nextNodes_2 : decode cX2_nextNodes 2 = .ok (.iconst 0, 1) := by decide +kernel
theorem dX2_nextNodes_3 : decode cX2_nextNodes 3 = .ok (.istore_n 3, 1) := by decide +kernel
theorem dX2_nextNodes_4 : decode cX2_nextNodes 4 = .ok (.iload_n 3, 1) := by decide +kernel
theorem dX2_nextNodes_5 : decode cX2_nextNodes 5 = .ok (.aload_n 0, 1) := by decide +kernel
theorem dX2_nextNodes_6 : decode cX2_nextNodes 6 = .ok (.getfield 21, 3) := by decide +kernel
theorem dX2_nextNodes_9 : decode cX2_nextNodes 9 = .ok (.iload_n 1, 1) := by decide +kernel
theorem dX2_nextNodes_10 : decode cX2_nextNodes 10 = .ok (.iaload, 1) := by decide +kernel
theorem dX2_nextNodes_11 : decode cX2_nextNodes 11 = .ok (.if_icmp .ge 29, 3) := by decide +kernel
theorem dX2_nextNodes_14 : decode cX2_nextNodes 14 = .ok (.aload_n 0, 1) := by decide +kernel
theorem dX2_nextNodes_15 : decode cX2_nextNodes 15 = .ok (.iload_n 1, 1) := by decide +kernel
theorem dX2_nextNodes_16 : decode cX2_nextNodes 16 = .ok (.iload_n 3, 1) := by decide +kernel
theorem dX2_nextNodes_17 : decode cX2_nextNodes 17 = .ok (.invokevirtual 47, 3) := by decide +kernel
theorem dX2_nextNodes_20 : decode cX2_nextNodes 20 = .ok (.ifCond .eq 14, 3) := by decide +kernel
theorem dX2_nextNodes_23 : decode cX2_nextNodes 23 = .ok (.iload_n 2, 1) := by decide +kernel
theorem dX2_nextNodes_24 : decode cX2_nextNodes 24 = .ok (.iconst 1, 1) := by decide +kernel
theorem dX2_nextNodes_25 : decode cX2_nextNodes 25 = .ok (.aload_n 0, 1) := by decide +kernel
theorem dX2_nextNodes_26 : decode cX2_nextNodes 26 = .ok (.iload_n 1, 1) := by decide +kernel
theorem dX2_nextNodes_27 : decode cX2_nextNodes 27 = .ok (.iload_n 3, 1) := by decide +kernel
theorem dX2_nextNodes_28 : decode cX2_nextNodes 28 = .ok (.invokevirtual 51, 3) := by decide +kernel
theorem dX2_nextNodes_31 : decode cX2_nextNodes 31 = .ok (.ishl, 1) := by decide +kernel
theorem dX2_nextNodes_32 : decode cX2_nextNodes 32 = .ok (.ior, 1) := by decide +kernel
theorem dX2_nextNodes_33 : decode cX2_nextNodes 33 = .ok (.istore_n 2, 1) := by decide +kernel
theorem dX2_nextNodes_34 : decode cX2_nextNodes 34 = .ok (.iinc 3 1, 3) := by decide +kernel
theorem dX2_nextNodes_37 : decode cX2_nextNodes 37 = .ok (.goto (-33), 3) := by decide +kernel
theorem dX2_nextNodes_40 : decode cX2_nextNodes 40 = .ok (.iload_n 2, 1) := by decide +kernel
theorem dX2_nextNodes_41 : decode cX2_nextNodes 41 = .ok (.ireturn, 1) := by decide +kernel
theorem dX2_payingEnds_0 : decode cX2_payingEnds 0 = .ok (.iconst 0, 1) := by decide +kernel
theorem dX2_payingEnds_1 : decode cX2_payingEnds 1 = .ok (.istore_n 1, 1) := by decide +kernel
theorem dX2_payingEnds_2 : decode cX2_payingEnds 2 = .ok (.iconst 0, 1) := by decide +kernel
theorem dX2_payingEnds_3 : decode cX2_payingEnds 3 = .ok (.istore_n 2, 1) := by decide +kernel
theorem dX2_payingEnds_4 : decode cX2_payingEnds 4 = .ok (.iload_n 2, 1) := by decide +kernel
theorem dX2_payingEnds_5 : decode cX2_payingEnds 5 = .ok (.aload_n 0, 1) := by decide +kernel
theorem dX2_payingEnds_6 : decode cX2_payingEnds 6 = .ok (.getfield 33, 3) := by decide +kernel
theorem dX2_payingEnds_9 : decode cX2_payingEnds 9 = .ok (.if_icmp .ge 33, 3) := by decide +kernel
theorem dX2_payingEnds_12 : decode cX2_payingEnds 12 = .ok (.aload_n 0, 1) := by decide +kernel
theorem dX2_payingEnds_13 : decode cX2_payingEnds 13 = .ok (.getfield 9, 3) := by decide +kernel
theorem dX2_payingEnds_16 : decode cX2_payingEnds 16 = .ok (.iload_n 2, 1) := by decide +kernel
theorem dX2_payingEnds_17 : decode cX2_payingEnds 17 = .ok (.iaload, 1) := by decide +kernel
theorem dX2_payingEnds_18 : decode cX2_payingEnds 18 = .ok (.ifCond .ne 18, 3) := by decide +kernel
theorem dX2_payingEnds_21 : decode cX2_payingEnds 21 = .ok (.aload_n 0, 1) := by decide +kernel
theorem dX2_payingEnds_22 : decode cX2_payingEnds 22 = .ok (.getfield 15, 3) := by decide +kernel
theorem dX2_payingEnds_25 : decode cX2_payingEnds 25 = .ok (.iload_n 2, 1) := by decide +kernel
theorem dX2_payingEnds_26 : decode cX2_payingEnds 26 = .ok (.iaload, 1) := by decide +kernel
theorem dX2_payingEnds_27 : decode cX2_payingEnds 27 = .ok (.ifCond .le 9, 3) := by decide +kernel
theorem dX2_payingEnds_30 : decode cX2_payingEnds 30 = .ok (.iload_n 1, 1) := by decide +kernel
theorem dX2_payingEnds_31 : decode cX2_payingEnds 31 = .ok (.iconst 1, 1) := by decide +kernel
theorem dX2_payingEnds_32 : decode cX2_payingEnds 32 = .ok (.iload_n 2, 1) := by decide +kernel
theorem dX2_payingEnds_33 : decode cX2_payingEnds 33 = .ok (.ishl, 1) := by decide +kernel
theorem dX2_payingEnds_34 : decode cX2_payingEnds 34 = .ok (.ior, 1) := by decide +kernel
theorem dX2_payingEnds_35 : decode cX2_payingEnds 35 = .ok (.istore_n 1, 1) := by decide +kernel
theorem dX2_payingEnds_36 : decode cX2_payingEnds 36 = .ok (.iinc 2 1, 3) := by decide +kernel
theorem dX2_payingEnds_39 : decode cX2_payingEnds 39 = .ok (.goto (-35), 3) := by decide +kernel
theorem dX2_payingEnds_42 : decode cX2_payingEnds 42 = .ok (.iload_n 1, 1) := by decide +kernel
theorem dX2_payingEnds_43 : decode cX2_payingEnds 43 = .ok (.ireturn, 1) := by decide +kernel
theorem dX2_setWeight_0 : decode cX2_setWeight 0 = .ok (.aload_n 0, 1) := by decide +kernel
theorem dX2_setWeight_1 : decode cX2_setWeight 1 = .ok (.getfield 30, 3) := by decide +kernel
theorem dX2_setWeight_4 : decode cX2_setWeight 4 = .ok (.iload_n 1, 1) := by decide +kernel
theorem dX2_setWeight_5 : decode cX2_setWeight 5 = .ok (.iconst 3, 1) := by decide +kernel
theorem dX2_setWeight_6 : decode cX2_setWeight 6 = .ok (.imul, 1) := by decide +kernel
theorem dX2_setWeight_7 : decode cX2_setWeight 7 = .ok (.iload_n 2, 1) := by decide +kernel
theorem dX2_setWeight_8 : decode cX2_setWeight 8 = .ok (.iadd, 1) := by decide +kernel
theorem dX2_setWeight_9 : decode cX2_setWeight 9 = .ok (.iload_n 3, 1) := by decide +kernel
theorem dX2_setWeight_10 : decode cX2_setWeight 10 = .ok (.iastore, 1) := by decide +kernel
theorem dX2_setWeight_11 : decode cX2_setWeight 11 = .ok (.return_, 1) := by decide +kernel
theorem dX2_target_0 : decode cX2_target 0 = .ok (.aload_n 0, 1) := by decide +kernel
theorem dX2_target_1 : decode cX2_target 1 = .ok (.getfield 27, 3) := by decide +kernel
theorem dX2_target_4 : decode cX2_target 4 = .ok (.iload_n 1, 1) := by decide +kernel
theorem dX2_target_5 : decode cX2_target 5 = .ok (.iconst 3, 1) := by decide +kernel
theorem dX2_target_6 : decode cX2_target 6 = .ok (.imul, 1) := by decide +kernel
theorem dX2_target_7 : decode cX2_target 7 = .ok (.iload_n 2, 1) := by decide +kernel
theorem dX2_target_8 : decode cX2_target 8 = .ok (.iadd, 1) := by decide +kernel
theorem dX2_target_9 : decode cX2_target 9 = .ok (.iaload, 1) := by decide +kernel
theorem dX2_target_10 : decode cX2_target 10 = .ok (.ireturn, 1) := by decide +kernel
theorem dX2_together_0 : decode cX2_together 0 = .ok (.aload_n 0, 1) := by decide +kernel
theorem dX2_together_1 : decode cX2_together 1 = .ok (.getfield 9, 3) := by decide +kernel
theorem dX2_together_4 : decode cX2_together 4 = .ok (.iload_n 1, 1) := by decide +kernel
theorem dX2_together_5 : decode cX2_together 5 = .ok (.iaload, 1) := by decide +kernel
theorem dX2_together_6 : decode cX2_together 6 = .ok (.iconst 3, 1) := by decide +kernel
theorem dX2_together_7 : decode cX2_together 7 = .ok (.if_icmp .eq 5, 3) := by decide +kernel
theorem dX2_together_10 : decode cX2_together 10 = .ok (.iconst 1, 1) := by decide +kernel
theorem dX2_together_11 : decode cX2_together 11 = .ok (.ireturn, 1) := by decide +kernel
theorem dX2_together_12 : decode cX2_together 12 = .ok (.iconst 0, 1) := by decide +kernel
theorem dX2_together_13 : decode cX2_together 13 = .ok (.istore_n 2, 1) := by decide +kernel
theorem dX2_together_14 : decode cX2_together 14 = .ok (.iconst 0, 1) := by decide +kernel
theorem dX2_together_15 : decode cX2_together 15 = .ok (.istore_n 3, 1) := by decide +kernel
theorem dX2_together_16 : decode cX2_together 16 = .ok (.iload_n 3, 1) := by decide +kernel
theorem dX2_together_17 : decode cX2_together 17 = .ok (.aload_n 0, 1) := by decide +kernel
theorem dX2_together_18 : decode cX2_together 18 = .ok (.getfield 21, 3) := by decide +kernel
theorem dX2_together_21 : decode cX2_together 21 = .ok (.iload_n 1, 1) := by decide +kernel
theorem dX2_together_22 : decode cX2_together 22 = .ok (.iaload, 1) := by decide +kernel
theorem dX2_together_23 : decode cX2_together 23 = .ok (.if_icmp .ge 22, 3) := by decide +kernel
theorem dX2_together_26 : decode cX2_together 26 = .ok (.iload_n 2, 1) := by decide +kernel
theorem dX2_together_27 : decode cX2_together 27 = .ok (.aload_n 0, 1) := by decide +kernel
theorem dX2_together_28 : decode cX2_together 28 = .ok (.getfield 30, 3) := by decide +kernel
theorem dX2_together_31 : decode cX2_together 31 = .ok (.iload_n 1, 1) := by decide +kernel
theorem dX2_together_32 : decode cX2_together 32 = .ok (.iconst 3, 1) := by decide +kernel
theorem dX2_together_33 : decode cX2_together 33 = .ok (.imul, 1) := by decide +kernel
theorem dX2_together_34 : decode cX2_together 34 = .ok (.iload_n 3, 1) := by decide +kernel
theorem dX2_together_35 : decode cX2_together 35 = .ok (.iadd, 1) := by decide +kernel
theorem dX2_together_36 : decode cX2_together 36 = .ok (.iaload, 1) := by decide +kernel
theorem dX2_together_37 : decode cX2_together 37 = .ok (.iadd, 1) := by decide +kernel
theorem dX2_together_38 : decode cX2_together 38 = .ok (.istore_n 2, 1) := by decide +kernel
theorem dX2_together_39 : decode cX2_together 39 = .ok (.iinc 3 1, 3) := by decide +kernel
theorem dX2_together_42 : decode cX2_together 42 = .ok (.goto (-26), 3) := by decide +kernel
theorem dX2_together_45 : decode cX2_together 45 = .ok (.iload_n 2, 1) := by decide +kernel
theorem dX2_together_46 : decode cX2_together 46 = .ok (.ireturn, 1) := by decide +kernel
theorem dX2_weight_0 : decode cX2_weight 0 = .ok (.aload_n 0, 1) := by decide +kernel
theorem dX2_weight_1 : decode cX2_weight 1 = .ok (.getfield 30, 3) := by decide +kernel
theorem dX2_weight_4 : decode cX2_weight 4 = .ok (.iload_n 1, 1) := by decide +kernel
theorem dX2_weight_5 : decode cX2_weight 5 = .ok (.iconst 3, 1) := by decide +kernel
theorem dX2_weight_6 : decode cX2_weight 6 = .ok (.imul, 1) := by decide +kernel
theorem dX2_weight_7 : decode cX2_weight 7 = .ok (.iload_n 2, 1) := by decide +kernel
theorem dX2_weight_8 : decode cX2_weight 8 = .ok (.iadd, 1) := by decide +kernel
theorem dX2_weight_9 : decode cX2_weight 9 = .ok (.iaload, 1) := by decide +kernel
theorem dX2_weight_10 : decode cX2_weight 10 = .ok (.ireturn, 1) := by decide +kernel
set_option maxHeartbeats 4000000 in
set_option maxRecDepth 100000 in
theorem c_X2_has (l : Launch) (D : va_G) (g : Nat → ClassId) (n : Nat) (p0 : Int32) (n_nodes : Int32) (n_kind : Nat) (n_pay : Nat) (n_name : Nat) (n_ways : Nat) (n_held : Nat) (n_targets : Nat) (n_weights : Nat) (h_n_nodes : 0 ≤ (n_nodes : Int32).toInt ∧ (n_nodes : Int32).toInt ≤ 12) : Met l yX2_has (.code yX2_has cX2_has 2 (some .boolean) :: wsL_law) ({ frames := 0, cells := 0, slots := 0, locals := 0 }) (va_Pc [.ref n, .int p0] (fun U => va_P D vwCl [(wO2 n n_nodes n_kind n_pay n_name n_ways n_held n_targets n_weights)] U.heap ∧ va_K D vwCl (TY g) U)) (vp_Si (fun r => (0 ≤ (r : Int32).toInt ∧ (r : Int32).toInt ≤ 1) ∧ (¬ r = 0 → 0 ≤ (p0 : Int32).toInt ∧ (p0 : Int32).toInt ≤ 11))) 0 0 (fun _ => False) := by
  refine Met.ofW (cc := cX2_has) (maxL := 2) (ret := (some .boolean)) (by decide) rfl ?_
  intro p e s m args below meth c s₁ B hml hv
  obtain ⟨ha, hP, hK⟩ := hv
  have hx := B.exec
  have hb := B.bytes
  have hr := B.returns
  have hts0 := atoms_spec (ws := (.code yX2_has cX2_has 2 (some .boolean) :: wsL_law)) B.pre
  have hts : ∀ w ∈ wsL_law, w.before args s = true := fun w h => hts0 w (List.mem_cons_of_mem _ h)
  have hown : s.vm.findClass RX2 = some m.cls := findClass_of_methodNamed B.named
  have hlocks := B.notSynchronized
  have hP : va_P D vwCl [(wO2 n n_nodes n_kind n_pay n_name n_ways n_held n_targets n_weights)] s.heap := hP
  refine W.eq (g2 := entryFrame m ([.ref n, .int p0] : List Value).toArray 2) (by rw [ha]) ?_
  have hl := lv_entry ([.ref n, .int p0]) (n := 2) (Nat.le_of_ble_eq_true rfl)
  rw [lg_entry_eq]
  generalize (lg_sl ([.ref n, .int p0]) ++ List.replicate (2 - (lg_sl ([.ref n, .int p0])).length) Slot.unset).toArray = ls at hl ⊢
  have hl : lv_has ls 2 [(0, .ref n), (1, .int p0)] := hl
  refine lv_iload_n hx hb dX2_has_0 rfl (lv_at hl 1 rfl) ?_
  refine lv_if_lt (tgt := 16) hx hb dX2_has_1 (by decide) (fun c_58825 => ?_) (fun c_58825 => ?_)
  · skip
    have c_58825_i := Int32.lt_iff_toInt_lt.mp c_58825
    have h_58826 : (-2147483648) ≤ (p0 : Int32).toInt ∧ (p0 : Int32).toInt ≤ (-1) := nr_lt_l (tr_any p0) (⟨by decide, by decide⟩ : 0 ≤ (0 : Int32).toInt ∧ (0 : Int32).toInt ≤ 0) c_58825_i (by decide) (by decide)
    refine lv_iconst (v := 0) hx hb dX2_has_16 (by decide) ?_
    exact W.zret (v := 0) hx hb hr (by decide) (fun t ht hW => ⟨0, rfl, ⟨(⟨by decide, by decide⟩ : 0 ≤ (0 : Int32).toInt ∧ (0 : Int32).toInt ≤ 1), (fun h => absurd rfl h)⟩, ht⟩) (fun _ h => nomatch h) dX2_has_17
  · skip
    have c_58825_i := Int32.le_iff_toInt_le.mp (Int32.not_lt.mp c_58825)
    have h_58827 : 0 ≤ (p0 : Int32).toInt ∧ (p0 : Int32).toInt ≤ 2147483647 := nr_le_r (⟨by decide, by decide⟩ : 0 ≤ (0 : Int32).toInt ∧ (0 : Int32).toInt ≤ 0) (tr_any p0) c_58825_i (by decide) (by decide)
    refine lv_iload_n hx hb dX2_has_4 rfl (lv_at hl 1 rfl) ?_
    refine lv_aload_n hx hb dX2_has_5 rfl (lv_at hl 0 rfl) ?_
    refine va_get (D := D) (ci := 2) (v := .int n_nodes) (C := RX2) (T := TX2) (N := 8) hx hb hts inlX2 hown hK hP 0 rfl rfl 0 (by decide) (hts (Cond.fieldLink RX2 33 "ChanceRings$Net" "nodes" "I") qw_313) (fun _ h9 => h9) rfl dX2_has_6 ?_
    refine lv_icmp_ge (tgt := 16) hx hb dX2_has_9 (by decide) (fun c_58828 => ?_) (fun c_58828 => ?_)
    · skip
      refine lv_iconst (v := 0) hx hb dX2_has_16 (by decide) ?_
      exact W.zret (v := 0) hx hb hr (by decide) (fun t ht hW => ⟨0, rfl, ⟨(⟨by decide, by decide⟩ : 0 ≤ (0 : Int32).toInt ∧ (0 : Int32).toInt ≤ 1), (fun h => absurd rfl h)⟩, ht⟩) (fun _ h => nomatch h) dX2_has_17
    · skip
      have c_58828_i := Int32.lt_iff_toInt_lt.mp (Int32.not_le.mp c_58828)
      have h_58829 : 0 ≤ (p0 : Int32).toInt ∧ (p0 : Int32).toInt ≤ 11 := nr_lt_l h_58827 h_n_nodes c_58828_i (by decide) (by decide)
      have h_58830 : 1 ≤ (n_nodes : Int32).toInt ∧ (n_nodes : Int32).toInt ≤ 12 := nr_lt_r h_58827 h_n_nodes c_58828_i (by decide) (by decide)
      refine lv_iconst (v := 1) hx hb dX2_has_12 (by decide) ?_
      refine lv_goto (tgt := 17) hx hb dX2_has_13 (by decide) ?_
      exact W.zret (v := 1) hx hb hr (by decide) (fun t ht hW => ⟨1, rfl, ⟨(⟨by decide, by decide⟩ : 0 ≤ (1 : Int32).toInt ∧ (1 : Int32).toInt ≤ 1), (fun _ => (tr_w h_58829 (by decide) (by decide)))⟩, ht⟩) (fun _ h => nomatch h) dX2_has_17
set_option maxHeartbeats 4000000 in
set_option maxRecDepth 100000 in
theorem c_X2_canTake (l : Launch) (D : va_G) (g : Nat → ClassId) (n : Nat) (p0 : Int32) (p1 : Int32) (n_nodes : Int32) (n_kind : Nat) (n_pay : Nat) (n_name : Nat) (n_ways : Nat) (n_held : Nat) (n_targets : Nat) (n_weights : Nat) (n_fheld : Nat → Int32) (h_p0 : 0 ≤ (p0 : Int32).toInt ∧ (p0 : Int32).toInt ≤ 11) (h_n_nodes : 0 ≤ (n_nodes : Int32).toInt ∧ (n_nodes : Int32).toInt ≤ 12) (h_n_fheld : ∀ j : Nat, (-1) ≤ (n_fheld j).toInt ∧ (n_fheld j).toInt ≤ 2) : Met l yX2_canTake (.code yX2_canTake cX2_canTake 3 (some .boolean) :: wsL_law) ({ frames := 0, cells := 0, slots := 0, locals := 0 }) (va_Pc [.ref n, .int p0, .int p1] (fun U => va_P D vwCl [(wO2 n n_nodes n_kind n_pay n_name n_ways n_held n_targets n_weights), (wI g n_held 0 12 n_fheld)] U.heap ∧ va_K D vwCl (TY g) U)) (vp_Si (fun r => 0 ≤ (r : Int32).toInt ∧ (r : Int32).toInt ≤ 1)) 0 0 (fun _ => False) := by
  refine Met.ofW (cc := cX2_canTake) (maxL := 3) (ret := (some .boolean)) (by decide) rfl ?_
  intro p e s m args below meth c s₁ B hml hv
  obtain ⟨ha, hP, hK⟩ := hv
  have hx := B.exec
  have hb := B.bytes
  have hr := B.returns
  have hts0 := atoms_spec (ws := (.code yX2_canTake cX2_canTake 3 (some .boolean) :: wsL_law)) B.pre
  have hts : ∀ w ∈ wsL_law, w.before args s = true := fun w h => hts0 w (List.mem_cons_of_mem _ h)
  have hown : s.vm.findClass RX2 = some m.cls := findClass_of_methodNamed B.named
  have hlocks := B.notSynchronized
  have hP : va_P D vwCl [(wO2 n n_nodes n_kind n_pay n_name n_ways n_held n_targets n_weights), (wI g n_held 0 12 n_fheld)] s.heap := hP
  refine W.eq (g2 := entryFrame m ([.ref n, .int p0, .int p1] : List Value).toArray 3) (by rw [ha]) ?_
  have hl := lv_entry ([.ref n, .int p0, .int p1]) (n := 3) (Nat.le_of_ble_eq_true rfl)
  rw [lg_entry_eq]
  generalize (lg_sl ([.ref n, .int p0, .int p1]) ++ List.replicate (3 - (lg_sl ([.ref n, .int p0, .int p1])).length) Slot.unset).toArray = ls at hl ⊢
  have hl : lv_has ls 3 [(0, .ref n), (1, .int p0), (2, .int p1)] := hl
  refine lv_aload_n hx hb dX2_canTake_0 rfl (lv_at hl 0 rfl) ?_
  refine va_get (D := D) (ci := 2) (v := .ref n_held) (C := RX2) (T := TX2) (N := 8) hx hb hts inlX2 hown hK hP 0 rfl rfl 5 (by decide) (hts (Cond.fieldLink RX2 24 "ChanceRings$Net" "held" "[I") qw_314) (fun _ h9 => h9) rfl dX2_canTake_1 ?_
  refine lv_iload_n hx hb dX2_canTake_4 rfl (lv_at hl 1 rfl) ?_
  refine va_iald hx hb hK hP 1 0 rfl rfl (tr_in h_p0 (by decide) (by decide)) dX2_canTake_5 ?_
  refine lv_topi (fun v_58831 v_58831_e => ?_)
  have h_v_58831 : (-1) ≤ (v_58831 : Int32).toInt ∧ (v_58831 : Int32).toInt ≤ 2 := by rw [v_58831_e]; exact h_n_fheld _
  refine lv_iconst (v := (-1)) hx hb dX2_canTake_6 (by decide) ?_
  refine lv_icmp_eq (tgt := 20) hx hb dX2_canTake_7 (by decide) (fun c_58832 => ?_) (fun c_58832 => ?_)
  · skip
    have c_58832_i : (v_58831 : Int32).toInt = ((-1) : Int32).toInt := congrArg Int32.toInt c_58832
    have h_58833 : (-1) ≤ (v_58831 : Int32).toInt ∧ (v_58831 : Int32).toInt ≤ (-1) := nr_eq_l h_v_58831 (⟨by decide, by decide⟩ : (-1) ≤ ((-1) : Int32).toInt ∧ ((-1) : Int32).toInt ≤ (-1)) c_58832_i (by decide) (by decide)
    refine lv_iconst (v := 1) hx hb dX2_canTake_20 (by decide) ?_
    refine lv_goto (tgt := 25) hx hb dX2_canTake_21 (by decide) ?_
    exact W.zret (v := 1) hx hb hr (by decide) (fun t ht hW => ⟨1, rfl, (⟨by decide, by decide⟩ : 0 ≤ (1 : Int32).toInt ∧ (1 : Int32).toInt ≤ 1), ht⟩) (fun _ h => nomatch h) dX2_canTake_25
  · skip
    have c_58832_i : ¬ (v_58831 : Int32).toInt = ((-1) : Int32).toInt := (fun q => c_58832 (Int32.toInt_inj.mp q))
    have h_58834 : 0 ≤ (v_58831 : Int32).toInt ∧ (v_58831 : Int32).toInt ≤ 2 := nr_ne_l h_v_58831 (⟨by decide, by decide⟩ : (-1) ≤ ((-1) : Int32).toInt ∧ ((-1) : Int32).toInt ≤ (-1)) c_58832_i (by decide) (by decide)
    refine lv_aload_n hx hb dX2_canTake_10 rfl (lv_at hl 0 rfl) ?_
    refine va_get (D := D) (ci := 2) (v := .ref n_held) (C := RX2) (T := TX2) (N := 8) hx hb hts inlX2 hown hK hP 0 rfl rfl 5 (by decide) (hts (Cond.fieldLink RX2 24 "ChanceRings$Net" "held" "[I") qw_314) (fun _ h9 => h9) rfl dX2_canTake_11 ?_
    refine lv_iload_n hx hb dX2_canTake_14 rfl (lv_at hl 1 rfl) ?_
    refine va_iald hx hb hK hP 1 0 rfl rfl (tr_in h_p0 (by decide) (by decide)) dX2_canTake_15 ?_
    refine tz_i (y := v_58831) v_58831_e.symm ?_
    refine lv_iload_n hx hb dX2_canTake_16 rfl (lv_at hl 2 rfl) ?_
    refine lv_icmp_ne (tgt := 24) hx hb dX2_canTake_17 (by decide) (fun c_58835 => ?_) (fun c_58835 => ?_)
    · skip
      refine lv_iconst (v := 0) hx hb dX2_canTake_24 (by decide) ?_
      exact W.zret (v := 0) hx hb hr (by decide) (fun t ht hW => ⟨0, rfl, (⟨by decide, by decide⟩ : 0 ≤ (0 : Int32).toInt ∧ (0 : Int32).toInt ≤ 1), ht⟩) (fun _ h => nomatch h) dX2_canTake_25
    · skip
      refine lv_iconst (v := 1) hx hb dX2_canTake_20 (by decide) ?_
      refine lv_goto (tgt := 25) hx hb dX2_canTake_21 (by decide) ?_
      exact W.zret (v := 1) hx hb hr (by decide) (fun t ht hW => ⟨1, rfl, (⟨by decide, by decide⟩ : 0 ≤ (1 : Int32).toInt ∧ (1 : Int32).toInt ≤ 1), ht⟩) (fun _ h => nomatch h) dX2_canTake_25
set_option maxHeartbeats 4000000 in
set_option maxRecDepth 100000 in
theorem c_X2_target (l : Launch) (D : va_G) (g : Nat → ClassId) (n : Nat) (p0 : Int32) (p1 : Int32) (n_nodes : Int32) (n_kind : Nat) (n_pay : Nat) (n_name : Nat) (n_ways : Nat) (n_held : Nat) (n_targets : Nat) (n_weights : Nat) (n_ftargets : Nat → Int32) (h_p0 : 0 ≤ (p0 : Int32).toInt ∧ (p0 : Int32).toInt ≤ 11) (h_p1 : 0 ≤ (p1 : Int32).toInt ∧ (p1 : Int32).toInt ≤ 2) (h_n_nodes : 0 ≤ (n_nodes : Int32).toInt ∧ (n_nodes : Int32).toInt ≤ 12) (h_n_ftargets : ∀ j : Nat, 0 ≤ (n_ftargets j).toInt ∧ (n_ftargets j).toInt ≤ 11) : Met l yX2_target (.code yX2_target cX2_target 3 (some .int) :: wsL_law) ({ frames := 0, cells := 0, slots := 0, locals := 0 }) (va_Pc [.ref n, .int p0, .int p1] (fun U => va_P D vwCl [(wO2 n n_nodes n_kind n_pay n_name n_ways n_held n_targets n_weights), (wI g n_targets 0 36 n_ftargets)] U.heap ∧ va_K D vwCl (TY g) U)) (vp_Si (fun r => 0 ≤ (r : Int32).toInt ∧ (r : Int32).toInt ≤ 11)) 0 0 (fun _ => False) := by
  refine Met.ofW (cc := cX2_target) (maxL := 3) (ret := (some .int)) (by decide) rfl ?_
  intro p e s m args below meth c s₁ B hml hv
  obtain ⟨ha, hP, hK⟩ := hv
  have hx := B.exec
  have hb := B.bytes
  have hr := B.returns
  have hts0 := atoms_spec (ws := (.code yX2_target cX2_target 3 (some .int) :: wsL_law)) B.pre
  have hts : ∀ w ∈ wsL_law, w.before args s = true := fun w h => hts0 w (List.mem_cons_of_mem _ h)
  have hown : s.vm.findClass RX2 = some m.cls := findClass_of_methodNamed B.named
  have hlocks := B.notSynchronized
  have hP : va_P D vwCl [(wO2 n n_nodes n_kind n_pay n_name n_ways n_held n_targets n_weights), (wI g n_targets 0 36 n_ftargets)] s.heap := hP
  refine W.eq (g2 := entryFrame m ([.ref n, .int p0, .int p1] : List Value).toArray 3) (by rw [ha]) ?_
  have hl := lv_entry ([.ref n, .int p0, .int p1]) (n := 3) (Nat.le_of_ble_eq_true rfl)
  rw [lg_entry_eq]
  generalize (lg_sl ([.ref n, .int p0, .int p1]) ++ List.replicate (3 - (lg_sl ([.ref n, .int p0, .int p1])).length) Slot.unset).toArray = ls at hl ⊢
  have hl : lv_has ls 3 [(0, .ref n), (1, .int p0), (2, .int p1)] := hl
  refine lv_aload_n hx hb dX2_target_0 rfl (lv_at hl 0 rfl) ?_
  refine va_get (D := D) (ci := 2) (v := .ref n_targets) (C := RX2) (T := TX2) (N := 8) hx hb hts inlX2 hown hK hP 0 rfl rfl 6 (by decide) (hts (Cond.fieldLink RX2 27 "ChanceRings$Net" "targets" "[I") qw_315) (fun _ h9 => h9) rfl dX2_target_1 ?_
  refine lv_iload_n hx hb dX2_target_4 rfl (lv_at hl 1 rfl) ?_
  refine lv_iconst (v := 3) hx hb dX2_target_5 (by decide) ?_
  refine lv_imul hx hb dX2_target_6 ?_
  refine lv_topi (fun v_58836 v_58836_e => ?_)
  have h_v_58836 : 0 ≤ (v_58836 : Int32).toInt ∧ (v_58836 : Int32).toInt ≤ 33 := by rw [v_58836_e]; exact tr_mul h_p0 (⟨by decide, by decide⟩ : 3 ≤ (3 : Int32).toInt ∧ (3 : Int32).toInt ≤ 3) (by decide) (by decide) (by decide) (by decide)
  refine lv_iload_n hx hb dX2_target_7 rfl (lv_at hl 2 rfl) ?_
  refine lv_iadd hx hb dX2_target_8 ?_
  refine lv_topi (fun v_58837 v_58837_e => ?_)
  have h_v_58837 : 0 ≤ (v_58837 : Int32).toInt ∧ (v_58837 : Int32).toInt ≤ 35 := by rw [v_58837_e]; exact tr_add h_v_58836 h_p1 (by decide) (by decide) (by decide) (by decide)
  refine va_iald hx hb hK hP 1 0 rfl rfl (tr_in h_v_58837 (by decide) (by decide)) dX2_target_9 ?_
  refine lv_topi (fun v_58838 v_58838_e => ?_)
  have h_v_58838 : 0 ≤ (v_58838 : Int32).toInt ∧ (v_58838 : Int32).toInt ≤ 11 := by rw [v_58838_e]; exact h_n_ftargets _
  exact W.iret (v := v_58838) hx hb hr (fun t ht hW => ⟨v_58838, rfl, (tr_w h_v_58838 (by decide) (by decide)), ht⟩) (fun _ h => nomatch h) dX2_target_10
set_option maxHeartbeats 4000000 in
set_option maxRecDepth 100000 in
theorem c_X2_payingEnds (l : Launch) (D : va_G) (g : Nat → ClassId) (n : Nat) (n_nodes : Int32) (n_kind : Nat) (n_pay : Nat) (n_name : Nat) (n_ways : Nat) (n_held : Nat) (n_targets : Nat) (n_weights : Nat) (n_fkind : Nat → Int32) (n_fpay : Nat → Int32) (h_n_nodes : 0 ≤ (n_nodes : Int32).toInt ∧ (n_nodes : Int32).toInt ≤ 12) (h_n_fkind : ∀ j : Nat, 0 ≤ (n_fkind j).toInt ∧ (n_fkind j).toInt ≤ 3) : Met l yX2_payingEnds (.code yX2_payingEnds cX2_payingEnds 3 (some .int) :: wsL_law) ({ frames := 0, cells := 0, slots := 0, locals := 0 }) (va_Pc [.ref n] (fun U => va_P D vwCl [(wO2 n n_nodes n_kind n_pay n_name n_ways n_held n_targets n_weights), (wI g n_kind 0 12 n_fkind), (wI g n_pay 0 12 n_fpay)] U.heap ∧ va_K D vwCl (TY g) U)) (vp_Si (fun r => True)) 0 0 (fun _ => False) := by
  refine Met.ofW (cc := cX2_payingEnds) (maxL := 3) (ret := (some .int)) (by decide) rfl ?_
  intro p e s m args below meth c s₁ B hml hv
  obtain ⟨ha, hP, hK⟩ := hv
  have hx := B.exec
  have hb := B.bytes
  have hr := B.returns
  have hts0 := atoms_spec (ws := (.code yX2_payingEnds cX2_payingEnds 3 (some .int) :: wsL_law)) B.pre
  have hts : ∀ w ∈ wsL_law, w.before args s = true := fun w h => hts0 w (List.mem_cons_of_mem _ h)
  have hown : s.vm.findClass RX2 = some m.cls := findClass_of_methodNamed B.named
  have hlocks := B.notSynchronized
  have hP : va_P D vwCl [(wO2 n n_nodes n_kind n_pay n_name n_ways n_held n_targets n_weights), (wI g n_kind 0 12 n_fkind), (wI g n_pay 0 12 n_fpay)] s.heap := hP
  refine W.eq (g2 := entryFrame m ([.ref n] : List Value).toArray 3) (by rw [ha]) ?_
  have hl := lv_entry ([.ref n]) (n := 3) (Nat.le_of_ble_eq_true rfl)
  rw [lg_entry_eq]
  generalize (lg_sl ([.ref n]) ++ List.replicate (3 - (lg_sl ([.ref n])).length) Slot.unset).toArray = ls at hl ⊢
  have hl : lv_has ls 3 [(0, .ref n)] := hl
  refine lv_iconst (v := 0) hx hb dX2_payingEnds_0 (by decide) ?_
  refine lv_istore_n (lv' := [(1, .int 0), (0, .ref n)]) hx hb dX2_payingEnds_1 rfl hl (by decide) rfl (fun ls hl => ?_)
  refine lv_iconst (v := 0) hx hb dX2_payingEnds_2 (by decide) ?_
  refine lv_istore_n (lv' := [(2, .int 0), (1, .int 0), (0, .ref n)]) hx hb dX2_payingEnds_3 rfl hl (by decide) rfl (fun ls hl => ?_)
  have lp_58978 : ∀ (n_58978 : Nat) (x_58976 : Int32) (x_58977 : Int32) (ls : Array Slot), (0 ≤ (x_58976 : Int32).toInt ∧ (x_58976 : Int32).toInt ≤ 12) → (12 - x_58976.toInt < (n_58978 : Int)) → lv_has ls 3 [(2, .int x_58976), (1, .int x_58977), (0, .ref n)] → W p l e (headSpec (.code yX2_payingEnds cX2_payingEnds 3 (some .int) :: wsL_law) ({ frames := 0, cells := 0, slots := 0, locals := 0 })).room s m args below meth c s.heap [] 0 0 (MQ below (vp_Si (fun r => True)) args s 0 0 (fun _ => False)) (F0 m 4 ls []) := by
    intro n_58978
    induction n_58978 with
    | zero =>
      intro x_58976 x_58977 ls h_x_58976 hm_58978 hl
      exfalso; omega
    | succ n_58978 ih_58978 =>
      intro x_58976 x_58977 ls h_x_58976 hm_58978 hl
      refine lv_iload_n hx hb dX2_payingEnds_4 rfl (lv_at hl 0 rfl) ?_
      refine lv_aload_n hx hb dX2_payingEnds_5 rfl (lv_at hl 2 rfl) ?_
      refine va_get (D := D) (ci := 2) (v := .int n_nodes) (C := RX2) (T := TX2) (N := 8) hx hb hts inlX2 hown hK hP 0 rfl rfl 0 (by decide) (hts (Cond.fieldLink RX2 33 "ChanceRings$Net" "nodes" "I") qw_313) (fun _ h9 => h9) rfl dX2_payingEnds_6 ?_
      refine lv_icmp_ge (tgt := 42) hx hb dX2_payingEnds_9 (by decide) (fun c_58979 => ?_) (fun c_58979 => ?_)
      · skip
        refine lv_iload_n hx hb dX2_payingEnds_42 rfl (lv_at hl 1 rfl) ?_
        exact W.iret (v := x_58977) hx hb hr (fun t ht hW => ⟨x_58977, rfl, trivial, ht⟩) (fun _ h => nomatch h) dX2_payingEnds_43
      · skip
        have c_58979_i := Int32.lt_iff_toInt_lt.mp (Int32.not_le.mp c_58979)
        have h_58980 : 0 ≤ (x_58976 : Int32).toInt ∧ (x_58976 : Int32).toInt ≤ 11 := nr_lt_l h_x_58976 h_n_nodes c_58979_i (by decide) (by decide)
        have h_58981 : 1 ≤ (n_nodes : Int32).toInt ∧ (n_nodes : Int32).toInt ≤ 12 := nr_lt_r h_x_58976 h_n_nodes c_58979_i (by decide) (by decide)
        refine lv_aload_n hx hb dX2_payingEnds_12 rfl (lv_at hl 2 rfl) ?_
        refine va_get (D := D) (ci := 2) (v := .ref n_kind) (C := RX2) (T := TX2) (N := 8) hx hb hts inlX2 hown hK hP 0 rfl rfl 1 (by decide) (hts (Cond.fieldLink RX2 9 "ChanceRings$Net" "kind" "[I") qw_316) (fun _ h9 => h9) rfl dX2_payingEnds_13 ?_
        refine lv_iload_n hx hb dX2_payingEnds_16 rfl (lv_at hl 0 rfl) ?_
        refine va_iald hx hb hK hP 1 0 rfl rfl (tr_in h_58980 (by decide) (by decide)) dX2_payingEnds_17 ?_
        refine lv_topi (fun v_58982 v_58982_e => ?_)
        have h_v_58982 : 0 ≤ (v_58982 : Int32).toInt ∧ (v_58982 : Int32).toInt ≤ 3 := by rw [v_58982_e]; exact h_n_fkind _
        refine lv_if_ne (tgt := 36) hx hb dX2_payingEnds_18 (by decide) (fun c_58983 => ?_) (fun c_58983 => ?_)
        · skip
          have c_58983_i : ¬ (v_58982 : Int32).toInt = (0 : Int32).toInt := (fun q => c_58983 (Int32.toInt_inj.mp q))
          have h_58984 : 1 ≤ (v_58982 : Int32).toInt ∧ (v_58982 : Int32).toInt ≤ 3 := nr_ne_l h_v_58982 (⟨by decide, by decide⟩ : 0 ≤ (0 : Int32).toInt ∧ (0 : Int32).toInt ≤ 0) c_58983_i (by decide) (by decide)
          obtain ⟨v_58986, v_58986_e⟩ : ∃ y : Int32, y = x_58976 + Int32.ofInt 1 := ⟨_, rfl⟩
          have h_v_58986 : 1 ≤ (v_58986 : Int32).toInt ∧ (v_58986 : Int32).toInt ≤ 12 := by rw [v_58986_e]; exact tr_add h_58980 (⟨by decide, by decide⟩ : 1 ≤ (Int32.ofInt 1 : Int32).toInt ∧ (Int32.ofInt 1 : Int32).toInt ≤ 1) (by decide) (by decide) (by decide) (by decide)
          have q_v_58986 : v_58986.toInt = x_58976.toInt + 1 := by rw [v_58986_e]; exact tr_addE h_58980 (⟨by decide, by decide⟩ : 1 ≤ (Int32.ofInt 1 : Int32).toInt ∧ (Int32.ofInt 1 : Int32).toInt ≤ 1) (by decide) (by decide)
          refine lv_iinc (v := v_58986) (lv' := [(2, .int v_58986), (1, .int x_58977), (0, .ref n)]) hx hb dX2_payingEnds_36 hl (k := 0) rfl v_58986_e.symm (by decide) rfl (fun ls hl => ?_)
          refine lv_goto (tgt := 4) hx hb dX2_payingEnds_39 (by decide) ?_
          exact ih_58978 v_58986 x_58977 ls (tr_w h_v_58986 (by decide) (by decide)) (by omega) (lv_sub hl [0, 1, 2] rfl)
        · skip
          have c_58983_i : (v_58982 : Int32).toInt = (0 : Int32).toInt := congrArg Int32.toInt c_58983
          have h_58985 : 0 ≤ (v_58982 : Int32).toInt ∧ (v_58982 : Int32).toInt ≤ 0 := nr_eq_l h_v_58982 (⟨by decide, by decide⟩ : 0 ≤ (0 : Int32).toInt ∧ (0 : Int32).toInt ≤ 0) c_58983_i (by decide) (by decide)
          refine lv_aload_n hx hb dX2_payingEnds_21 rfl (lv_at hl 2 rfl) ?_
          refine va_get (D := D) (ci := 2) (v := .ref n_pay) (C := RX2) (T := TX2) (N := 8) hx hb hts inlX2 hown hK hP 0 rfl rfl 2 (by decide) (hts (Cond.fieldLink RX2 15 "ChanceRings$Net" "pay" "[I") qw_317) (fun _ h9 => h9) rfl dX2_payingEnds_22 ?_
          refine lv_iload_n hx hb dX2_payingEnds_25 rfl (lv_at hl 0 rfl) ?_
          refine va_iald hx hb hK hP 2 0 rfl rfl (tr_in h_58980 (by decide) (by decide)) dX2_payingEnds_26 ?_
          refine lv_topi (fun v_58987 v_58987_e => ?_)
          refine lv_if_le (tgt := 36) hx hb dX2_payingEnds_27 (by decide) (fun c_58988 => ?_) (fun c_58988 => ?_)
          · skip
            have c_58988_i := Int32.le_iff_toInt_le.mp c_58988
            have h_58989 : (-2147483648) ≤ (v_58987 : Int32).toInt ∧ (v_58987 : Int32).toInt ≤ 0 := nr_le_l (tr_any v_58987) (⟨by decide, by decide⟩ : 0 ≤ (0 : Int32).toInt ∧ (0 : Int32).toInt ≤ 0) c_58988_i (by decide) (by decide)
            obtain ⟨v_58991, v_58991_e⟩ : ∃ y : Int32, y = x_58976 + Int32.ofInt 1 := ⟨_, rfl⟩
            have h_v_58991 : 1 ≤ (v_58991 : Int32).toInt ∧ (v_58991 : Int32).toInt ≤ 12 := by rw [v_58991_e]; exact tr_add h_58980 (⟨by decide, by decide⟩ : 1 ≤ (Int32.ofInt 1 : Int32).toInt ∧ (Int32.ofInt 1 : Int32).toInt ≤ 1) (by decide) (by decide) (by decide) (by decide)
            have q_v_58991 : v_58991.toInt = x_58976.toInt + 1 := by rw [v_58991_e]; exact tr_addE h_58980 (⟨by decide, by decide⟩ : 1 ≤ (Int32.ofInt 1 : Int32).toInt ∧ (Int32.ofInt 1 : Int32).toInt ≤ 1) (by decide) (by decide)
            refine lv_iinc (v := v_58991) (lv' := [(2, .int v_58991), (1, .int x_58977), (0, .ref n)]) hx hb dX2_payingEnds_36 hl (k := 0) rfl v_58991_e.symm (by decide) rfl (fun ls hl => ?_)
            refine lv_goto (tgt := 4) hx hb dX2_payingEnds_39 (by decide) ?_
            exact ih_58978 v_58991 x_58977 ls (tr_w h_v_58991 (by decide) (by decide)) (by (first | (clear h_v_58982 c_58983_i h_58985 c_58988_i h_58989; omega) | omega)) (lv_sub hl [0, 1, 2] rfl)
          · skip
            have c_58988_i := Int32.lt_iff_toInt_lt.mp (Int32.not_le.mp c_58988)
            have h_58990 : 1 ≤ (v_58987 : Int32).toInt ∧ (v_58987 : Int32).toInt ≤ 2147483647 := nr_lt_r (⟨by decide, by decide⟩ : 0 ≤ (0 : Int32).toInt ∧ (0 : Int32).toInt ≤ 0) (tr_any v_58987) c_58988_i (by decide) (by decide)
            refine lv_iload_n hx hb dX2_payingEnds_30 rfl (lv_at hl 1 rfl) ?_
            refine lv_iconst (v := 1) hx hb dX2_payingEnds_31 (by decide) ?_
            refine lv_iload_n hx hb dX2_payingEnds_32 rfl (lv_at hl 0 rfl) ?_
            refine lv_ishl hx hb dX2_payingEnds_33 ?_
            refine lv_topi (fun v_58992 v_58992_e => ?_)
            refine lv_ior hx hb dX2_payingEnds_34 ?_
            refine lv_topi (fun v_58993 v_58993_e => ?_)
            refine lv_istore_n (lv' := [(1, .int v_58993), (2, .int x_58976), (0, .ref n)]) hx hb dX2_payingEnds_35 rfl hl (by decide) rfl (fun ls hl => ?_)
            obtain ⟨v_58994, v_58994_e⟩ : ∃ y : Int32, y = x_58976 + Int32.ofInt 1 := ⟨_, rfl⟩
            have h_v_58994 : 1 ≤ (v_58994 : Int32).toInt ∧ (v_58994 : Int32).toInt ≤ 12 := by rw [v_58994_e]; exact tr_add h_58980 (⟨by decide, by decide⟩ : 1 ≤ (Int32.ofInt 1 : Int32).toInt ∧ (Int32.ofInt 1 : Int32).toInt ≤ 1) (by decide) (by decide) (by decide) (by decide)
            have q_v_58994 : v_58994.toInt = x_58976.toInt + 1 := by rw [v_58994_e]; exact tr_addE h_58980 (⟨by decide, by decide⟩ : 1 ≤ (Int32.ofInt 1 : Int32).toInt ∧ (Int32.ofInt 1 : Int32).toInt ≤ 1) (by decide) (by decide)
            refine lv_iinc (v := v_58994) (lv' := [(2, .int v_58994), (1, .int v_58993), (0, .ref n)]) hx hb dX2_payingEnds_36 hl (k := 1) rfl v_58994_e.symm (by decide) rfl (fun ls hl => ?_)
            refine lv_goto (tgt := 4) hx hb dX2_payingEnds_39 (by decide) ?_
            exact ih_58978 v_58994 v_58993 ls (tr_w h_v_58994 (by decide) (by decide)) (by (first | (clear h_v_58982 c_58983_i h_58985 c_58988_i h_58990; omega) | omega)) (lv_sub hl [0, 1, 2] rfl)
  exact lp_58978 13 0 0 ls (⟨by decide, by decide⟩ : 0 ≤ (0 : Int32).toInt ∧ (0 : Int32).toInt ≤ 12) (by decide) (lv_sub hl [0, 1, 2] rfl)
set_option maxHeartbeats 4000000 in
set_option maxRecDepth 100000 in
theorem c_X2_nextNodes (l : Launch) (D : va_G) (g : Nat → ClassId) (n : Nat) (p0 : Int32) (n_nodes : Int32) (n_kind : Nat) (n_pay : Nat) (n_name : Nat) (n_ways : Nat) (n_held : Nat) (n_targets : Nat) (n_weights : Nat) (n_fways : Nat → Int32) (n_fheld : Nat → Int32) (n_ftargets : Nat → Int32) (h_p0 : 0 ≤ (p0 : Int32).toInt ∧ (p0 : Int32).toInt ≤ 11) (h_n_nodes : 0 ≤ (n_nodes : Int32).toInt ∧ (n_nodes : Int32).toInt ≤ 12) (h_n_fways : ∀ j : Nat, 0 ≤ (n_fways j).toInt ∧ (n_fways j).toInt ≤ 3) (h_n_fheld : ∀ j : Nat, (-1) ≤ (n_fheld j).toInt ∧ (n_fheld j).toInt ≤ 2) (h_n_ftargets : ∀ j : Nat, 0 ≤ (n_ftargets j).toInt ∧ (n_ftargets j).toInt ≤ 11) : Met l yX2_nextNodes (.code yX2_nextNodes cX2_nextNodes 4 (some .int) :: wsL_law) ({ frames := 1, cells := 0, slots := 0, locals := 22 }) (va_Pc [.ref n, .int p0] (fun U => va_P D vwCl [(wO2 n n_nodes n_kind n_pay n_name n_ways n_held n_targets n_weights), (wI g n_ways 0 12 n_fways), (wI g n_held 0 12 n_fheld), (wI g n_targets 0 36 n_ftargets)] U.heap ∧ va_K D vwCl (TY g) U)) (vp_Si (fun r => True)) 0 0 (fun _ => False) := by
  refine Met.ofW (cc := cX2_nextNodes) (maxL := 4) (ret := (some .int)) (by decide) rfl ?_
  intro p e s m args below meth c s₁ B hml hv
  obtain ⟨ha, hP, hK⟩ := hv
  have hx := B.exec
  have hb := B.bytes
  have hr := B.returns
  have hts0 := atoms_spec (ws := (.code yX2_nextNodes cX2_nextNodes 4 (some .int) :: wsL_law)) B.pre
  have hts : ∀ w ∈ wsL_law, w.before args s = true := fun w h => hts0 w (List.mem_cons_of_mem _ h)
  have hown : s.vm.findClass RX2 = some m.cls := findClass_of_methodNamed B.named
  have hlocks := B.notSynchronized
  have hP : va_P D vwCl [(wO2 n n_nodes n_kind n_pay n_name n_ways n_held n_targets n_weights), (wI g n_ways 0 12 n_fways), (wI g n_held 0 12 n_fheld), (wI g n_targets 0 36 n_ftargets)] s.heap := hP
  refine W.eq (g2 := entryFrame m ([.ref n, .int p0] : List Value).toArray 4) (by rw [ha]) ?_
  have hl := lv_entry ([.ref n, .int p0]) (n := 4) (Nat.le_of_ble_eq_true rfl)
  rw [lg_entry_eq]
  generalize (lg_sl ([.ref n, .int p0]) ++ List.replicate (4 - (lg_sl ([.ref n, .int p0])).length) Slot.unset).toArray = ls at hl ⊢
  have hl : lv_has ls 4 [(0, .ref n), (1, .int p0)] := hl
  refine lv_iconst (v := 0) hx hb dX2_nextNodes_0 (by decide) ?_
  refine lv_istore_n (lv' := [(2, .int 0), (0, .ref n), (1, .int p0)]) hx hb dX2_nextNodes_1 rfl hl (by decide) rfl (fun ls hl => ?_)
  refine lv_iconst (v := 0) hx hb dX2_nextNodes_2 (by decide) ?_
  refine lv_istore_n (lv' := [(3, .int 0), (2, .int 0), (0, .ref n), (1, .int p0)]) hx hb dX2_nextNodes_3 rfl hl (by decide) rfl (fun ls hl => ?_)
  have lp_59061 : ∀ (n_59061 : Nat) (x_59059 : Int32) (x_59060 : Int32) (ls : Array Slot), (0 ≤ (x_59059 : Int32).toInt ∧ (x_59059 : Int32).toInt ≤ 3) → (3 - x_59059.toInt < (n_59061 : Int)) → lv_has ls 4 [(3, .int x_59059), (2, .int x_59060), (0, .ref n), (1, .int p0)] → W p l e (headSpec (.code yX2_nextNodes cX2_nextNodes 4 (some .int) :: wsL_law) ({ frames := 1, cells := 0, slots := 0, locals := 22 })).room s m args below meth c s.heap [] 0 0 (MQ below (vp_Si (fun r => True)) args s 0 0 (fun _ => False)) (F0 m 4 ls []) := by
    intro n_59061
    induction n_59061 with
    | zero =>
      intro x_59059 x_59060 ls h_x_59059 hm_59061 hl
      exfalso; omega
    | succ n_59061 ih_59061 =>
      intro x_59059 x_59060 ls h_x_59059 hm_59061 hl
      refine lv_iload_n hx hb dX2_nextNodes_4 rfl (lv_at hl 0 rfl) ?_
      refine lv_aload_n hx hb dX2_nextNodes_5 rfl (lv_at hl 2 rfl) ?_
      refine va_get (D := D) (ci := 2) (v := .ref n_ways) (C := RX2) (T := TX2) (N := 8) hx hb hts inlX2 hown hK hP 0 rfl rfl 4 (by decide) (hts (Cond.fieldLink RX2 21 "ChanceRings$Net" "ways" "[I") qw_318) (fun _ h9 => h9) rfl dX2_nextNodes_6 ?_
      refine lv_iload_n hx hb dX2_nextNodes_9 rfl (lv_at hl 3 rfl) ?_
      refine va_iald hx hb hK hP 1 0 rfl rfl (tr_in h_p0 (by decide) (by decide)) dX2_nextNodes_10 ?_
      refine lv_topi (fun v_59062 v_59062_e => ?_)
      have h_v_59062 : 0 ≤ (v_59062 : Int32).toInt ∧ (v_59062 : Int32).toInt ≤ 3 := by rw [v_59062_e]; exact h_n_fways _
      refine lv_icmp_ge (tgt := 40) hx hb dX2_nextNodes_11 (by decide) (fun c_59063 => ?_) (fun c_59063 => ?_)
      · skip
        refine lv_iload_n hx hb dX2_nextNodes_40 rfl (lv_at hl 1 rfl) ?_
        exact W.iret (v := x_59060) hx hb hr (fun t ht hW => ⟨x_59060, rfl, trivial, ht⟩) (fun _ h => nomatch h) dX2_nextNodes_41
      · skip
        have c_59063_i := Int32.lt_iff_toInt_lt.mp (Int32.not_le.mp c_59063)
        have h_59064 : 0 ≤ (x_59059 : Int32).toInt ∧ (x_59059 : Int32).toInt ≤ 2 := nr_lt_l h_x_59059 h_v_59062 c_59063_i (by decide) (by decide)
        have h_59065 : 1 ≤ (v_59062 : Int32).toInt ∧ (v_59062 : Int32).toInt ≤ 3 := nr_lt_r h_x_59059 h_v_59062 c_59063_i (by decide) (by decide)
        refine lv_aload_n hx hb dX2_nextNodes_14 rfl (lv_at hl 2 rfl) ?_
        refine lv_iload_n hx hb dX2_nextNodes_15 rfl (lv_at hl 3 rfl) ?_
        refine lv_iload_n hx hb dX2_nextNodes_16 rfl (lv_at hl 0 rfl) ?_
        have hPc := hP.sub (ws' := [(wO2 n n_nodes n_kind n_pay n_name n_ways n_held n_targets n_weights), (wI g n_held 0 12 n_fheld)]) [0, 2] rfl
        refine vp_callSi (va_Run.run (va_runV (As := [.int p0, .int x_59059]) (rest := []) ⟨hx, hb, hml, hown, hts⟩ (c_X2_canTake l D g n p0 x_59059 n_nodes n_kind n_pay n_name n_ways n_held n_targets n_weights n_fheld (tr_w h_p0 (by decide) (by decide)) (tr_w h_n_nodes (by decide) (by decide)) (tr_wa h_n_fheld (by decide) (by decide))) (cwV 2 hts (tz_gV qw_319 qw_320 qw_321 qw_322 qw_323) rfl rfl rfl (by decide +kernel) ⟨Nat.le_of_ble_eq_true rfl, Nat.le_of_ble_eq_true rfl⟩) ⟨tz_blS, va_recv hK hPc (ci := 2) (q0 := 0) rfl rfl, tz_preS hPc hK⟩ rfl rfl hl.1 rfl (lv_room (Nat.le_of_ble_eq_true rfl)) dX2_nextNodes_17 ⟨Nat.le_of_ble_eq_true rfl, Nat.le_of_ble_eq_true rfl⟩)) (fun r_59066 hw => ?_)
        have hw_59067 : 0 ≤ (r_59066 : Int32).toInt ∧ (r_59066 : Int32).toInt ≤ 1 := hw
        refine lv_if_eq (tgt := 34) hx hb dX2_nextNodes_20 (by decide) (fun c_59068 => ?_) (fun c_59068 => ?_)
        · skip
          have c_59068_i : (r_59066 : Int32).toInt = (0 : Int32).toInt := congrArg Int32.toInt c_59068
          have h_59069 : 0 ≤ (r_59066 : Int32).toInt ∧ (r_59066 : Int32).toInt ≤ 0 := nr_eq_l hw_59067 (⟨by decide, by decide⟩ : 0 ≤ (0 : Int32).toInt ∧ (0 : Int32).toInt ≤ 0) c_59068_i (by decide) (by decide)
          obtain ⟨v_59071, v_59071_e⟩ : ∃ y : Int32, y = x_59059 + Int32.ofInt 1 := ⟨_, rfl⟩
          have h_v_59071 : 1 ≤ (v_59071 : Int32).toInt ∧ (v_59071 : Int32).toInt ≤ 3 := by rw [v_59071_e]; exact tr_add h_59064 (⟨by decide, by decide⟩ : 1 ≤ (Int32.ofInt 1 : Int32).toInt ∧ (Int32.ofInt 1 : Int32).toInt ≤ 1) (by decide) (by decide) (by decide) (by decide)
          have q_v_59071 : v_59071.toInt = x_59059.toInt + 1 := by rw [v_59071_e]; exact tr_addE h_59064 (⟨by decide, by decide⟩ : 1 ≤ (Int32.ofInt 1 : Int32).toInt ∧ (Int32.ofInt 1 : Int32).toInt ≤ 1) (by decide) (by decide)
          refine lv_iinc (v := v_59071) (lv' := [(3, .int v_59071), (2, .int x_59060), (0, .ref n), (1, .int p0)]) hx hb dX2_nextNodes_34 hl (k := 0) rfl v_59071_e.symm (by decide) rfl (fun ls hl => ?_)
          refine lv_goto (tgt := 4) hx hb dX2_nextNodes_37 (by decide) ?_
          exact ih_59061 v_59071 x_59060 ls (tr_w h_v_59071 (by decide) (by decide)) (by (first | (clear h_p0 h_n_nodes hw_59067 c_59068_i h_59069; omega) | omega)) (lv_sub hl [0, 1, 2, 3] rfl)
        · skip
          have c_59068_i : ¬ (r_59066 : Int32).toInt = (0 : Int32).toInt := (fun q => c_59068 (Int32.toInt_inj.mp q))
          have h_59070 : 1 ≤ (r_59066 : Int32).toInt ∧ (r_59066 : Int32).toInt ≤ 1 := nr_ne_l hw_59067 (⟨by decide, by decide⟩ : 0 ≤ (0 : Int32).toInt ∧ (0 : Int32).toInt ≤ 0) c_59068_i (by decide) (by decide)
          refine lv_iload_n hx hb dX2_nextNodes_23 rfl (lv_at hl 1 rfl) ?_
          refine lv_iconst (v := 1) hx hb dX2_nextNodes_24 (by decide) ?_
          refine lv_aload_n hx hb dX2_nextNodes_25 rfl (lv_at hl 2 rfl) ?_
          refine lv_iload_n hx hb dX2_nextNodes_26 rfl (lv_at hl 3 rfl) ?_
          refine lv_iload_n hx hb dX2_nextNodes_27 rfl (lv_at hl 0 rfl) ?_
          have hPc := hP.sub (ws' := [(wO2 n n_nodes n_kind n_pay n_name n_ways n_held n_targets n_weights), (wI g n_targets 0 36 n_ftargets)]) [0, 3] rfl
          refine vp_callSi (va_Run.run (va_runV (As := [.int p0, .int x_59059]) (rest := [.int 1, .int x_59060]) ⟨hx, hb, hml, hown, hts⟩ (c_X2_target l D g n p0 x_59059 n_nodes n_kind n_pay n_name n_ways n_held n_targets n_weights n_ftargets (tr_w h_p0 (by decide) (by decide)) (tr_w h_59064 (by decide) (by decide)) (tr_w h_n_nodes (by decide) (by decide)) (tr_wa h_n_ftargets (by decide) (by decide))) (cwV 2 hts (tz_gV qw_324 qw_325 qw_326 qw_322 qw_327) rfl rfl rfl (by decide +kernel) ⟨Nat.le_of_ble_eq_true rfl, Nat.le_of_ble_eq_true rfl⟩) ⟨tz_blS, va_recv hK hPc (ci := 2) (q0 := 0) rfl rfl, tz_preS hPc hK⟩ rfl rfl hl.1 rfl (lv_room (Nat.le_of_ble_eq_true rfl)) dX2_nextNodes_28 ⟨Nat.le_of_ble_eq_true rfl, Nat.le_of_ble_eq_true rfl⟩)) (fun r_59072 hw => ?_)
          have hw_59073 : 0 ≤ (r_59072 : Int32).toInt ∧ (r_59072 : Int32).toInt ≤ 11 := hw
          refine lv_ishl hx hb dX2_nextNodes_31 ?_
          refine lv_topi (fun v_59074 v_59074_e => ?_)
          refine lv_ior hx hb dX2_nextNodes_32 ?_
          refine lv_topi (fun v_59075 v_59075_e => ?_)
          refine lv_istore_n (lv' := [(2, .int v_59075), (3, .int x_59059), (0, .ref n), (1, .int p0)]) hx hb dX2_nextNodes_33 rfl hl (by decide) rfl (fun ls hl => ?_)
          obtain ⟨v_59076, v_59076_e⟩ : ∃ y : Int32, y = x_59059 + Int32.ofInt 1 := ⟨_, rfl⟩
          have h_v_59076 : 1 ≤ (v_59076 : Int32).toInt ∧ (v_59076 : Int32).toInt ≤ 3 := by rw [v_59076_e]; exact tr_add h_59064 (⟨by decide, by decide⟩ : 1 ≤ (Int32.ofInt 1 : Int32).toInt ∧ (Int32.ofInt 1 : Int32).toInt ≤ 1) (by decide) (by decide) (by decide) (by decide)
          have q_v_59076 : v_59076.toInt = x_59059.toInt + 1 := by rw [v_59076_e]; exact tr_addE h_59064 (⟨by decide, by decide⟩ : 1 ≤ (Int32.ofInt 1 : Int32).toInt ∧ (Int32.ofInt 1 : Int32).toInt ≤ 1) (by decide) (by decide)
          refine lv_iinc (v := v_59076) (lv' := [(3, .int v_59076), (2, .int v_59075), (0, .ref n), (1, .int p0)]) hx hb dX2_nextNodes_34 hl (k := 1) rfl v_59076_e.symm (by decide) rfl (fun ls hl => ?_)
          refine lv_goto (tgt := 4) hx hb dX2_nextNodes_37 (by decide) ?_
          exact ih_59061 v_59076 v_59075 ls (tr_w h_v_59076 (by decide) (by decide)) (by (first | (clear h_p0 h_n_nodes hw_59067 c_59068_i h_59070 hw_59073; omega) | omega)) (lv_sub hl [0, 1, 2, 3] rfl)
  exact lp_59061 4 0 0 ls (⟨by decide, by decide⟩ : 0 ≤ (0 : Int32).toInt ∧ (0 : Int32).toInt ≤ 3) (by decide) (lv_sub hl [0, 1, 2, 3] rfl)
set_option maxHeartbeats 4000000 in
set_option maxRecDepth 100000 in
theorem c_X2_hasWay (l : Launch) (D : va_G) (g : Nat → ClassId) (n : Nat) (p0 : Int32) (p1 : Int32) (n_nodes : Int32) (n_kind : Nat) (n_pay : Nat) (n_name : Nat) (n_ways : Nat) (n_held : Nat) (n_targets : Nat) (n_weights : Nat) (n_fways : Nat → Int32) (h_n_nodes : 0 ≤ (n_nodes : Int32).toInt ∧ (n_nodes : Int32).toInt ≤ 12) (h_n_fways : ∀ j : Nat, 0 ≤ (n_fways j).toInt ∧ (n_fways j).toInt ≤ 3) : Met l yX2_hasWay (.code yX2_hasWay cX2_hasWay 3 (some .boolean) :: wsL_law) ({ frames := 1, cells := 0, slots := 0, locals := 21 }) (va_Pc [.ref n, .int p0, .int p1] (fun U => va_P D vwCl [(wO2 n n_nodes n_kind n_pay n_name n_ways n_held n_targets n_weights), (wI g n_ways 0 12 n_fways)] U.heap ∧ va_K D vwCl (TY g) U)) (vp_Si (fun r => (0 ≤ (r : Int32).toInt ∧ (r : Int32).toInt ≤ 1) ∧ (¬ r = 0 → 0 ≤ (p0 : Int32).toInt ∧ (p0 : Int32).toInt ≤ 11))) 0 0 (fun _ => False) := by
  refine Met.ofW (cc := cX2_hasWay) (maxL := 3) (ret := (some .boolean)) (by decide) rfl ?_
  intro p e s m args below meth c s₁ B hml hv
  obtain ⟨ha, hP, hK⟩ := hv
  have hx := B.exec
  have hb := B.bytes
  have hr := B.returns
  have hts0 := atoms_spec (ws := (.code yX2_hasWay cX2_hasWay 3 (some .boolean) :: wsL_law)) B.pre
  have hts : ∀ w ∈ wsL_law, w.before args s = true := fun w h => hts0 w (List.mem_cons_of_mem _ h)
  have hown : s.vm.findClass RX2 = some m.cls := findClass_of_methodNamed B.named
  have hlocks := B.notSynchronized
  have hP : va_P D vwCl [(wO2 n n_nodes n_kind n_pay n_name n_ways n_held n_targets n_weights), (wI g n_ways 0 12 n_fways)] s.heap := hP
  refine W.eq (g2 := entryFrame m ([.ref n, .int p0, .int p1] : List Value).toArray 3) (by rw [ha]) ?_
  have hl := lv_entry ([.ref n, .int p0, .int p1]) (n := 3) (Nat.le_of_ble_eq_true rfl)
  rw [lg_entry_eq]
  generalize (lg_sl ([.ref n, .int p0, .int p1]) ++ List.replicate (3 - (lg_sl ([.ref n, .int p0, .int p1])).length) Slot.unset).toArray = ls at hl ⊢
  have hl : lv_has ls 3 [(0, .ref n), (1, .int p0), (2, .int p1)] := hl
  refine lv_aload_n hx hb dX2_hasWay_0 rfl (lv_at hl 0 rfl) ?_
  refine lv_iload_n hx hb dX2_hasWay_1 rfl (lv_at hl 1 rfl) ?_
  have hPc := hP.sub (ws' := [(wO2 n n_nodes n_kind n_pay n_name n_ways n_held n_targets n_weights)]) [0] rfl
  refine vp_callSi (va_Run.run (va_runV (As := [.int p0]) (rest := []) ⟨hx, hb, hml, hown, hts⟩ (c_X2_has l D g n p0 n_nodes n_kind n_pay n_name n_ways n_held n_targets n_weights (tr_w h_n_nodes (by decide) (by decide))) (cwV 1 hts (tz_gV qw_328 qw_329 qw_330 qw_322 qw_331) rfl rfl rfl (by decide +kernel) ⟨Nat.le_of_ble_eq_true rfl, Nat.le_of_ble_eq_true rfl⟩) ⟨tz_blS, va_recv hK hPc (ci := 2) (q0 := 0) rfl rfl, tz_preS hPc hK⟩ rfl rfl hl.1 rfl (lv_room (Nat.le_of_ble_eq_true rfl)) dX2_hasWay_2 ⟨Nat.le_of_ble_eq_true rfl, Nat.le_of_ble_eq_true rfl⟩)) (fun r_59077 hw => ?_)
  have hw_59078 : 0 ≤ (r_59077 : Int32).toInt ∧ (r_59077 : Int32).toInt ≤ 1 := hw.1
  have hw_59078_m : ¬ r_59077 = 0 → 0 ≤ (p0 : Int32).toInt ∧ (p0 : Int32).toInt ≤ 11 := hw.2
  refine lv_if_eq (tgt := 26) hx hb dX2_hasWay_5 (by decide) (fun c_59079 => ?_) (fun c_59079 => ?_)
  · skip
    have c_59079_i : (r_59077 : Int32).toInt = (0 : Int32).toInt := congrArg Int32.toInt c_59079
    have h_59080 : 0 ≤ (r_59077 : Int32).toInt ∧ (r_59077 : Int32).toInt ≤ 0 := nr_eq_l hw_59078 (⟨by decide, by decide⟩ : 0 ≤ (0 : Int32).toInt ∧ (0 : Int32).toInt ≤ 0) c_59079_i (by decide) (by decide)
    refine lv_iconst (v := 0) hx hb dX2_hasWay_26 (by decide) ?_
    exact W.zret (v := 0) hx hb hr (by decide) (fun t ht hW => ⟨0, rfl, ⟨(⟨by decide, by decide⟩ : 0 ≤ (0 : Int32).toInt ∧ (0 : Int32).toInt ≤ 1), (fun h => absurd rfl h)⟩, ht⟩) (fun _ h => nomatch h) dX2_hasWay_27
  · skip
    have h_59081 := hw_59078_m c_59079
    have c_59079_i : ¬ (r_59077 : Int32).toInt = (0 : Int32).toInt := (fun q => c_59079 (Int32.toInt_inj.mp q))
    have h_59082 : 1 ≤ (r_59077 : Int32).toInt ∧ (r_59077 : Int32).toInt ≤ 1 := nr_ne_l hw_59078 (⟨by decide, by decide⟩ : 0 ≤ (0 : Int32).toInt ∧ (0 : Int32).toInt ≤ 0) c_59079_i (by decide) (by decide)
    refine lv_iload_n hx hb dX2_hasWay_8 rfl (lv_at hl 2 rfl) ?_
    refine lv_if_lt (tgt := 26) hx hb dX2_hasWay_9 (by decide) (fun c_59083 => ?_) (fun c_59083 => ?_)
    · skip
      have c_59083_i := Int32.lt_iff_toInt_lt.mp c_59083
      have h_59084 : (-2147483648) ≤ (p1 : Int32).toInt ∧ (p1 : Int32).toInt ≤ (-1) := nr_lt_l (tr_any p1) (⟨by decide, by decide⟩ : 0 ≤ (0 : Int32).toInt ∧ (0 : Int32).toInt ≤ 0) c_59083_i (by decide) (by decide)
      refine lv_iconst (v := 0) hx hb dX2_hasWay_26 (by decide) ?_
      exact W.zret (v := 0) hx hb hr (by decide) (fun t ht hW => ⟨0, rfl, ⟨(⟨by decide, by decide⟩ : 0 ≤ (0 : Int32).toInt ∧ (0 : Int32).toInt ≤ 1), (fun h => absurd rfl h)⟩, ht⟩) (fun _ h => nomatch h) dX2_hasWay_27
    · skip
      have c_59083_i := Int32.le_iff_toInt_le.mp (Int32.not_lt.mp c_59083)
      have h_59085 : 0 ≤ (p1 : Int32).toInt ∧ (p1 : Int32).toInt ≤ 2147483647 := nr_le_r (⟨by decide, by decide⟩ : 0 ≤ (0 : Int32).toInt ∧ (0 : Int32).toInt ≤ 0) (tr_any p1) c_59083_i (by decide) (by decide)
      refine lv_iload_n hx hb dX2_hasWay_12 rfl (lv_at hl 2 rfl) ?_
      refine lv_aload_n hx hb dX2_hasWay_13 rfl (lv_at hl 0 rfl) ?_
      refine va_get (D := D) (ci := 2) (v := .ref n_ways) (C := RX2) (T := TX2) (N := 8) hx hb hts inlX2 hown hK hP 0 rfl rfl 4 (by decide) (hts (Cond.fieldLink RX2 21 "ChanceRings$Net" "ways" "[I") qw_318) (fun _ h9 => h9) rfl dX2_hasWay_14 ?_
      refine lv_iload_n hx hb dX2_hasWay_17 rfl (lv_at hl 1 rfl) ?_
      refine va_iald hx hb hK hP 1 0 rfl rfl (tr_in h_59081 (by decide) (by decide)) dX2_hasWay_18 ?_
      refine lv_topi (fun v_59086 v_59086_e => ?_)
      have h_v_59086 : 0 ≤ (v_59086 : Int32).toInt ∧ (v_59086 : Int32).toInt ≤ 3 := by rw [v_59086_e]; exact h_n_fways _
      refine lv_icmp_ge (tgt := 26) hx hb dX2_hasWay_19 (by decide) (fun c_59087 => ?_) (fun c_59087 => ?_)
      · skip
        refine lv_iconst (v := 0) hx hb dX2_hasWay_26 (by decide) ?_
        exact W.zret (v := 0) hx hb hr (by decide) (fun t ht hW => ⟨0, rfl, ⟨(⟨by decide, by decide⟩ : 0 ≤ (0 : Int32).toInt ∧ (0 : Int32).toInt ≤ 1), (fun h => absurd rfl h)⟩, ht⟩) (fun _ h => nomatch h) dX2_hasWay_27
      · skip
        have c_59087_i := Int32.lt_iff_toInt_lt.mp (Int32.not_le.mp c_59087)
        have h_59088 : 0 ≤ (p1 : Int32).toInt ∧ (p1 : Int32).toInt ≤ 2 := nr_lt_l h_59085 h_v_59086 c_59087_i (by decide) (by decide)
        have h_59089 : 1 ≤ (v_59086 : Int32).toInt ∧ (v_59086 : Int32).toInt ≤ 3 := nr_lt_r h_59085 h_v_59086 c_59087_i (by decide) (by decide)
        refine lv_iconst (v := 1) hx hb dX2_hasWay_22 (by decide) ?_
        refine lv_goto (tgt := 27) hx hb dX2_hasWay_23 (by decide) ?_
        exact W.zret (v := 1) hx hb hr (by decide) (fun t ht hW => ⟨1, rfl, ⟨(⟨by decide, by decide⟩ : 0 ≤ (1 : Int32).toInt ∧ (1 : Int32).toInt ≤ 1), (fun _ => (tr_w h_59081 (by decide) (by decide)))⟩, ht⟩) (fun _ h => nomatch h) dX2_hasWay_27
set_option maxHeartbeats 4000000 in
set_option maxRecDepth 100000 in
theorem c_X2_isChooser (l : Launch) (D : va_G) (g : Nat → ClassId) (n : Nat) (p0 : Int32) (n_nodes : Int32) (n_kind : Nat) (n_pay : Nat) (n_name : Nat) (n_ways : Nat) (n_held : Nat) (n_targets : Nat) (n_weights : Nat) (n_fkind : Nat → Int32) (h_n_nodes : 0 ≤ (n_nodes : Int32).toInt ∧ (n_nodes : Int32).toInt ≤ 12) (h_n_fkind : ∀ j : Nat, 0 ≤ (n_fkind j).toInt ∧ (n_fkind j).toInt ≤ 3) : Met l yX2_isChooser (.code yX2_isChooser cX2_isChooser 2 (some .boolean) :: wsL_law) ({ frames := 1, cells := 0, slots := 0, locals := 21 }) (va_Pc [.ref n, .int p0] (fun U => va_P D vwCl [(wO2 n n_nodes n_kind n_pay n_name n_ways n_held n_targets n_weights), (wI g n_kind 0 12 n_fkind)] U.heap ∧ va_K D vwCl (TY g) U)) (vp_Si (fun r => (0 ≤ (r : Int32).toInt ∧ (r : Int32).toInt ≤ 1) ∧ (¬ r = 0 → 0 ≤ (p0 : Int32).toInt ∧ (p0 : Int32).toInt ≤ 11))) 0 0 (fun _ => False) := by
  refine Met.ofW (cc := cX2_isChooser) (maxL := 2) (ret := (some .boolean)) (by decide) rfl ?_
  intro p e s m args below meth c s₁ B hml hv
  obtain ⟨ha, hP, hK⟩ := hv
  have hx := B.exec
  have hb := B.bytes
  have hr := B.returns
  have hts0 := atoms_spec (ws := (.code yX2_isChooser cX2_isChooser 2 (some .boolean) :: wsL_law)) B.pre
  have hts : ∀ w ∈ wsL_law, w.before args s = true := fun w h => hts0 w (List.mem_cons_of_mem _ h)
  have hown : s.vm.findClass RX2 = some m.cls := findClass_of_methodNamed B.named
  have hlocks := B.notSynchronized
  have hP : va_P D vwCl [(wO2 n n_nodes n_kind n_pay n_name n_ways n_held n_targets n_weights), (wI g n_kind 0 12 n_fkind)] s.heap := hP
  refine W.eq (g2 := entryFrame m ([.ref n, .int p0] : List Value).toArray 2) (by rw [ha]) ?_
  have hl := lv_entry ([.ref n, .int p0]) (n := 2) (Nat.le_of_ble_eq_true rfl)
  rw [lg_entry_eq]
  generalize (lg_sl ([.ref n, .int p0]) ++ List.replicate (2 - (lg_sl ([.ref n, .int p0])).length) Slot.unset).toArray = ls at hl ⊢
  have hl : lv_has ls 2 [(0, .ref n), (1, .int p0)] := hl
  refine lv_aload_n hx hb dX2_isChooser_0 rfl (lv_at hl 0 rfl) ?_
  refine lv_iload_n hx hb dX2_isChooser_1 rfl (lv_at hl 1 rfl) ?_
  have hPc := hP.sub (ws' := [(wO2 n n_nodes n_kind n_pay n_name n_ways n_held n_targets n_weights)]) [0] rfl
  refine vp_callSi (va_Run.run (va_runV (As := [.int p0]) (rest := []) ⟨hx, hb, hml, hown, hts⟩ (c_X2_has l D g n p0 n_nodes n_kind n_pay n_name n_ways n_held n_targets n_weights (tr_w h_n_nodes (by decide) (by decide))) (cwV 1 hts (tz_gV qw_328 qw_329 qw_330 qw_322 qw_331) rfl rfl rfl (by decide +kernel) ⟨Nat.le_of_ble_eq_true rfl, Nat.le_of_ble_eq_true rfl⟩) ⟨tz_blS, va_recv hK hPc (ci := 2) (q0 := 0) rfl rfl, tz_preS hPc hK⟩ rfl rfl hl.1 rfl (lv_room (Nat.le_of_ble_eq_true rfl)) dX2_isChooser_2 ⟨Nat.le_of_ble_eq_true rfl, Nat.le_of_ble_eq_true rfl⟩)) (fun r_59090 hw => ?_)
  have hw_59091 : 0 ≤ (r_59090 : Int32).toInt ∧ (r_59090 : Int32).toInt ≤ 1 := hw.1
  have hw_59091_m : ¬ r_59090 = 0 → 0 ≤ (p0 : Int32).toInt ∧ (p0 : Int32).toInt ≤ 11 := hw.2
  refine lv_if_eq (tgt := 32) hx hb dX2_isChooser_5 (by decide) (fun c_59092 => ?_) (fun c_59092 => ?_)
  · skip
    have c_59092_i : (r_59090 : Int32).toInt = (0 : Int32).toInt := congrArg Int32.toInt c_59092
    have h_59093 : 0 ≤ (r_59090 : Int32).toInt ∧ (r_59090 : Int32).toInt ≤ 0 := nr_eq_l hw_59091 (⟨by decide, by decide⟩ : 0 ≤ (0 : Int32).toInt ∧ (0 : Int32).toInt ≤ 0) c_59092_i (by decide) (by decide)
    refine lv_iconst (v := 0) hx hb dX2_isChooser_32 (by decide) ?_
    exact W.zret (v := 0) hx hb hr (by decide) (fun t ht hW => ⟨0, rfl, ⟨(⟨by decide, by decide⟩ : 0 ≤ (0 : Int32).toInt ∧ (0 : Int32).toInt ≤ 1), (fun h => absurd rfl h)⟩, ht⟩) (fun _ h => nomatch h) dX2_isChooser_33
  · skip
    have h_59094 := hw_59091_m c_59092
    have c_59092_i : ¬ (r_59090 : Int32).toInt = (0 : Int32).toInt := (fun q => c_59092 (Int32.toInt_inj.mp q))
    have h_59095 : 1 ≤ (r_59090 : Int32).toInt ∧ (r_59090 : Int32).toInt ≤ 1 := nr_ne_l hw_59091 (⟨by decide, by decide⟩ : 0 ≤ (0 : Int32).toInt ∧ (0 : Int32).toInt ≤ 0) c_59092_i (by decide) (by decide)
    refine lv_aload_n hx hb dX2_isChooser_8 rfl (lv_at hl 0 rfl) ?_
    refine va_get (D := D) (ci := 2) (v := .ref n_kind) (C := RX2) (T := TX2) (N := 8) hx hb hts inlX2 hown hK hP 0 rfl rfl 1 (by decide) (hts (Cond.fieldLink RX2 9 "ChanceRings$Net" "kind" "[I") qw_316) (fun _ h9 => h9) rfl dX2_isChooser_9 ?_
    refine lv_iload_n hx hb dX2_isChooser_12 rfl (lv_at hl 1 rfl) ?_
    refine va_iald hx hb hK hP 1 0 rfl rfl (tr_in h_59094 (by decide) (by decide)) dX2_isChooser_13 ?_
    refine lv_topi (fun v_59096 v_59096_e => ?_)
    have h_v_59096 : 0 ≤ (v_59096 : Int32).toInt ∧ (v_59096 : Int32).toInt ≤ 3 := by rw [v_59096_e]; exact h_n_fkind _
    refine lv_iconst (v := 1) hx hb dX2_isChooser_14 (by decide) ?_
    refine lv_icmp_eq (tgt := 28) hx hb dX2_isChooser_15 (by decide) (fun c_59097 => ?_) (fun c_59097 => ?_)
    · skip
      have c_59097_i : (v_59096 : Int32).toInt = (1 : Int32).toInt := congrArg Int32.toInt c_59097
      have h_59098 : 1 ≤ (v_59096 : Int32).toInt ∧ (v_59096 : Int32).toInt ≤ 1 := nr_eq_l h_v_59096 (⟨by decide, by decide⟩ : 1 ≤ (1 : Int32).toInt ∧ (1 : Int32).toInt ≤ 1) c_59097_i (by decide) (by decide)
      refine lv_iconst (v := 1) hx hb dX2_isChooser_28 (by decide) ?_
      refine lv_goto (tgt := 33) hx hb dX2_isChooser_29 (by decide) ?_
      exact W.zret (v := 1) hx hb hr (by decide) (fun t ht hW => ⟨1, rfl, ⟨(⟨by decide, by decide⟩ : 0 ≤ (1 : Int32).toInt ∧ (1 : Int32).toInt ≤ 1), (fun _ => (tr_w h_59094 (by decide) (by decide)))⟩, ht⟩) (fun _ h => nomatch h) dX2_isChooser_33
    · skip
      refine lv_aload_n hx hb dX2_isChooser_18 rfl (lv_at hl 0 rfl) ?_
      refine va_get (D := D) (ci := 2) (v := .ref n_kind) (C := RX2) (T := TX2) (N := 8) hx hb hts inlX2 hown hK hP 0 rfl rfl 1 (by decide) (hts (Cond.fieldLink RX2 9 "ChanceRings$Net" "kind" "[I") qw_316) (fun _ h9 => h9) rfl dX2_isChooser_19 ?_
      refine lv_iload_n hx hb dX2_isChooser_22 rfl (lv_at hl 1 rfl) ?_
      refine va_iald hx hb hK hP 1 0 rfl rfl (tr_in h_59094 (by decide) (by decide)) dX2_isChooser_23 ?_
      refine tz_i (y := v_59096) v_59096_e.symm ?_
      refine lv_iconst (v := 2) hx hb dX2_isChooser_24 (by decide) ?_
      refine lv_icmp_ne (tgt := 32) hx hb dX2_isChooser_25 (by decide) (fun c_59099 => ?_) (fun c_59099 => ?_)
      · skip
        refine lv_iconst (v := 0) hx hb dX2_isChooser_32 (by decide) ?_
        exact W.zret (v := 0) hx hb hr (by decide) (fun t ht hW => ⟨0, rfl, ⟨(⟨by decide, by decide⟩ : 0 ≤ (0 : Int32).toInt ∧ (0 : Int32).toInt ≤ 1), (fun h => absurd rfl h)⟩, ht⟩) (fun _ h => nomatch h) dX2_isChooser_33
      · skip
        have c_59099_i : (v_59096 : Int32).toInt = (2 : Int32).toInt := congrArg Int32.toInt c_59099
        have h_59100 : 2 ≤ (v_59096 : Int32).toInt ∧ (v_59096 : Int32).toInt ≤ 2 := nr_eq_l h_v_59096 (⟨by decide, by decide⟩ : 2 ≤ (2 : Int32).toInt ∧ (2 : Int32).toInt ≤ 2) c_59099_i (by decide) (by decide)
        refine lv_iconst (v := 1) hx hb dX2_isChooser_28 (by decide) ?_
        refine lv_goto (tgt := 33) hx hb dX2_isChooser_29 (by decide) ?_
        exact W.zret (v := 1) hx hb hr (by decide) (fun t ht hW => ⟨1, rfl, ⟨(⟨by decide, by decide⟩ : 0 ≤ (1 : Int32).toInt ∧ (1 : Int32).toInt ≤ 1), (fun _ => (tr_w h_59094 (by decide) (by decide)))⟩, ht⟩) (fun _ h => nomatch h) dX2_isChooser_33
set_option maxHeartbeats 4000000 in
set_option maxRecDepth 100000 in
theorem c_X2_weight (l : Launch) (D : va_G) (g : Nat → ClassId) (n : Nat) (p0 : Int32) (p1 : Int32) (n_nodes : Int32) (n_kind : Nat) (n_pay : Nat) (n_name : Nat) (n_ways : Nat) (n_held : Nat) (n_targets : Nat) (n_weights : Nat) (n_fweights : Nat → Int32) (h_p0 : 0 ≤ (p0 : Int32).toInt ∧ (p0 : Int32).toInt ≤ 11) (h_p1 : 0 ≤ (p1 : Int32).toInt ∧ (p1 : Int32).toInt ≤ 2) (h_n_nodes : 0 ≤ (n_nodes : Int32).toInt ∧ (n_nodes : Int32).toInt ≤ 12) : Met l yX2_weight (.code yX2_weight cX2_weight 3 (some .int) :: wsL_law) ({ frames := 0, cells := 0, slots := 0, locals := 0 }) (va_Pc [.ref n, .int p0, .int p1] (fun U => va_P D vwCl [(wO2 n n_nodes n_kind n_pay n_name n_ways n_held n_targets n_weights), (wI g n_weights 0 36 n_fweights)] U.heap ∧ va_K D vwCl (TY g) U)) (vp_Si (fun r => True)) 0 0 (fun _ => False) := by
  refine Met.ofW (cc := cX2_weight) (maxL := 3) (ret := (some .int)) (by decide) rfl ?_
  intro p e s m args below meth c s₁ B hml hv
  obtain ⟨ha, hP, hK⟩ := hv
  have hx := B.exec
  have hb := B.bytes
  have hr := B.returns
  have hts0 := atoms_spec (ws := (.code yX2_weight cX2_weight 3 (some .int) :: wsL_law)) B.pre
  have hts : ∀ w ∈ wsL_law, w.before args s = true := fun w h => hts0 w (List.mem_cons_of_mem _ h)
  have hown : s.vm.findClass RX2 = some m.cls := findClass_of_methodNamed B.named
  have hlocks := B.notSynchronized
  have hP : va_P D vwCl [(wO2 n n_nodes n_kind n_pay n_name n_ways n_held n_targets n_weights), (wI g n_weights 0 36 n_fweights)] s.heap := hP
  refine W.eq (g2 := entryFrame m ([.ref n, .int p0, .int p1] : List Value).toArray 3) (by rw [ha]) ?_
  have hl := lv_entry ([.ref n, .int p0, .int p1]) (n := 3) (Nat.le_of_ble_eq_true rfl)
  rw [lg_entry_eq]
  generalize (lg_sl ([.ref n, .int p0, .int p1]) ++ List.replicate (3 - (lg_sl ([.ref n, .int p0, .int p1])).length) Slot.unset).toArray = ls at hl ⊢
  have hl : lv_has ls 3 [(0, .ref n), (1, .int p0), (2, .int p1)] := hl
  refine lv_aload_n hx hb dX2_weight_0 rfl (lv_at hl 0 rfl) ?_
  refine va_get (D := D) (ci := 2) (v := .ref n_weights) (C := RX2) (T := TX2) (N := 8) hx hb hts inlX2 hown hK hP 0 rfl rfl 7 (by decide) (hts (Cond.fieldLink RX2 30 "ChanceRings$Net" "weights" "[I") qw_332) (fun _ h9 => h9) rfl dX2_weight_1 ?_
  refine lv_iload_n hx hb dX2_weight_4 rfl (lv_at hl 1 rfl) ?_
  refine lv_iconst (v := 3) hx hb dX2_weight_5 (by decide) ?_
  refine lv_imul hx hb dX2_weight_6 ?_
  refine lv_topi (fun v_59101 v_59101_e => ?_)
  have h_v_59101 : 0 ≤ (v_59101 : Int32).toInt ∧ (v_59101 : Int32).toInt ≤ 33 := by rw [v_59101_e]; exact tr_mul h_p0 (⟨by decide, by decide⟩ : 3 ≤ (3 : Int32).toInt ∧ (3 : Int32).toInt ≤ 3) (by decide) (by decide) (by decide) (by decide)
  refine lv_iload_n hx hb dX2_weight_7 rfl (lv_at hl 2 rfl) ?_
  refine lv_iadd hx hb dX2_weight_8 ?_
  refine lv_topi (fun v_59102 v_59102_e => ?_)
  have h_v_59102 : 0 ≤ (v_59102 : Int32).toInt ∧ (v_59102 : Int32).toInt ≤ 35 := by rw [v_59102_e]; exact tr_add h_v_59101 h_p1 (by decide) (by decide) (by decide) (by decide)
  refine va_iald hx hb hK hP 1 0 rfl rfl (tr_in h_v_59102 (by decide) (by decide)) dX2_weight_9 ?_
  refine lv_topi (fun v_59103 v_59103_e => ?_)
  exact W.iret (v := v_59103) hx hb hr (fun t ht hW => ⟨v_59103, rfl, trivial, ht⟩) (fun _ h => nomatch h) dX2_weight_10
set_option maxHeartbeats 4000000 in
set_option maxRecDepth 100000 in
theorem c_X2_together (l : Launch) (D : va_G) (g : Nat → ClassId) (n : Nat) (p0 : Int32) (n_nodes : Int32) (n_kind : Nat) (n_pay : Nat) (n_name : Nat) (n_ways : Nat) (n_held : Nat) (n_targets : Nat) (n_weights : Nat) (n_fkind : Nat → Int32) (n_fways : Nat → Int32) (n_fweights : Nat → Int32) (h_p0 : 0 ≤ (p0 : Int32).toInt ∧ (p0 : Int32).toInt ≤ 11) (h_n_nodes : 0 ≤ (n_nodes : Int32).toInt ∧ (n_nodes : Int32).toInt ≤ 12) (h_n_fkind : ∀ j : Nat, 0 ≤ (n_fkind j).toInt ∧ (n_fkind j).toInt ≤ 3) (h_n_fways : ∀ j : Nat, 0 ≤ (n_fways j).toInt ∧ (n_fways j).toInt ≤ 3) : Met l yX2_together (.code yX2_together cX2_together 4 (some .int) :: wsL_law) ({ frames := 0, cells := 0, slots := 0, locals := 0 }) (va_Pc [.ref n, .int p0] (fun U => va_P D vwCl [(wO2 n n_nodes n_kind n_pay n_name n_ways n_held n_targets n_weights), (wI g n_kind 0 12 n_fkind), (wI g n_ways 0 12 n_fways), (wI g n_weights 0 36 n_fweights)] U.heap ∧ va_K D vwCl (TY g) U)) (vp_Si (fun r => True)) 0 0 (fun _ => False) := by
  refine Met.ofW (cc := cX2_together) (maxL := 4) (ret := (some .int)) (by decide) rfl ?_
  intro p e s m args below meth c s₁ B hml hv
  obtain ⟨ha, hP, hK⟩ := hv
  have hx := B.exec
  have hb := B.bytes
  have hr := B.returns
  have hts0 := atoms_spec (ws := (.code yX2_together cX2_together 4 (some .int) :: wsL_law)) B.pre
  have hts : ∀ w ∈ wsL_law, w.before args s = true := fun w h => hts0 w (List.mem_cons_of_mem _ h)
  have hown : s.vm.findClass RX2 = some m.cls := findClass_of_methodNamed B.named
  have hlocks := B.notSynchronized
  have hP : va_P D vwCl [(wO2 n n_nodes n_kind n_pay n_name n_ways n_held n_targets n_weights), (wI g n_kind 0 12 n_fkind), (wI g n_ways 0 12 n_fways), (wI g n_weights 0 36 n_fweights)] s.heap := hP
  refine W.eq (g2 := entryFrame m ([.ref n, .int p0] : List Value).toArray 4) (by rw [ha]) ?_
  have hl := lv_entry ([.ref n, .int p0]) (n := 4) (Nat.le_of_ble_eq_true rfl)
  rw [lg_entry_eq]
  generalize (lg_sl ([.ref n, .int p0]) ++ List.replicate (4 - (lg_sl ([.ref n, .int p0])).length) Slot.unset).toArray = ls at hl ⊢
  have hl : lv_has ls 4 [(0, .ref n), (1, .int p0)] := hl
  refine lv_aload_n hx hb dX2_together_0 rfl (lv_at hl 0 rfl) ?_
  refine va_get (D := D) (ci := 2) (v := .ref n_kind) (C := RX2) (T := TX2) (N := 8) hx hb hts inlX2 hown hK hP 0 rfl rfl 1 (by decide) (hts (Cond.fieldLink RX2 9 "ChanceRings$Net" "kind" "[I") qw_316) (fun _ h9 => h9) rfl dX2_together_1 ?_
  refine lv_iload_n hx hb dX2_together_4 rfl (lv_at hl 1 rfl) ?_
  refine va_iald hx hb hK hP 1 0 rfl rfl (tr_in h_p0 (by decide) (by decide)) dX2_together_5 ?_
  refine lv_topi (fun v_59104 v_59104_e => ?_)
  have h_v_59104 : 0 ≤ (v_59104 : Int32).toInt ∧ (v_59104 : Int32).toInt ≤ 3 := by rw [v_59104_e]; exact h_n_fkind _
  refine lv_iconst (v := 3) hx hb dX2_together_6 (by decide) ?_
  refine lv_icmp_eq (tgt := 12) hx hb dX2_together_7 (by decide) (fun c_59105 => ?_) (fun c_59105 => ?_)
  · skip
    have c_59105_i : (v_59104 : Int32).toInt = (3 : Int32).toInt := congrArg Int32.toInt c_59105
    have h_59106 : 3 ≤ (v_59104 : Int32).toInt ∧ (v_59104 : Int32).toInt ≤ 3 := nr_eq_l h_v_59104 (⟨by decide, by decide⟩ : 3 ≤ (3 : Int32).toInt ∧ (3 : Int32).toInt ≤ 3) c_59105_i (by decide) (by decide)
    refine lv_iconst (v := 0) hx hb dX2_together_12 (by decide) ?_
    refine lv_istore_n (lv' := [(2, .int 0), (0, .ref n), (1, .int p0)]) hx hb dX2_together_13 rfl hl (by decide) rfl (fun ls hl => ?_)
    refine lv_iconst (v := 0) hx hb dX2_together_14 (by decide) ?_
    refine lv_istore_n (lv' := [(3, .int 0), (2, .int 0), (0, .ref n), (1, .int p0)]) hx hb dX2_together_15 rfl hl (by decide) rfl (fun ls hl => ?_)
    have lp_59151 : ∀ (n_59151 : Nat) (x_59149 : Int32) (x_59150 : Int32) (ls : Array Slot), (0 ≤ (x_59149 : Int32).toInt ∧ (x_59149 : Int32).toInt ≤ 3) → (3 - x_59149.toInt < (n_59151 : Int)) → lv_has ls 4 [(3, .int x_59149), (2, .int x_59150), (0, .ref n), (1, .int p0)] → W p l e (headSpec (.code yX2_together cX2_together 4 (some .int) :: wsL_law) ({ frames := 0, cells := 0, slots := 0, locals := 0 })).room s m args below meth c s.heap [] 0 0 (MQ below (vp_Si (fun r => True)) args s 0 0 (fun _ => False)) (F0 m 16 ls []) := by
      intro n_59151
      induction n_59151 with
      | zero =>
        intro x_59149 x_59150 ls h_x_59149 hm_59151 hl
        exfalso; omega
      | succ n_59151 ih_59151 =>
        intro x_59149 x_59150 ls h_x_59149 hm_59151 hl
        refine lv_iload_n hx hb dX2_together_16 rfl (lv_at hl 0 rfl) ?_
        refine lv_aload_n hx hb dX2_together_17 rfl (lv_at hl 2 rfl) ?_
        refine va_get (D := D) (ci := 2) (v := .ref n_ways) (C := RX2) (T := TX2) (N := 8) hx hb hts inlX2 hown hK hP 0 rfl rfl 4 (by decide) (hts (Cond.fieldLink RX2 21 "ChanceRings$Net" "ways" "[I") qw_318) (fun _ h9 => h9) rfl dX2_together_18 ?_
        refine lv_iload_n hx hb dX2_together_21 rfl (lv_at hl 3 rfl) ?_
        refine va_iald hx hb hK hP 2 0 rfl rfl (tr_in h_p0 (by decide) (by decide)) dX2_together_22 ?_
        refine lv_topi (fun v_59152 v_59152_e => ?_)
        have h_v_59152 : 0 ≤ (v_59152 : Int32).toInt ∧ (v_59152 : Int32).toInt ≤ 3 := by rw [v_59152_e]; exact h_n_fways _
        refine lv_icmp_ge (tgt := 45) hx hb dX2_together_23 (by decide) (fun c_59153 => ?_) (fun c_59153 => ?_)
        · skip
          refine lv_iload_n hx hb dX2_together_45 rfl (lv_at hl 1 rfl) ?_
          exact W.iret (v := x_59150) hx hb hr (fun t ht hW => ⟨x_59150, rfl, trivial, ht⟩) (fun _ h => nomatch h) dX2_together_46
        · skip
          have c_59153_i := Int32.lt_iff_toInt_lt.mp (Int32.not_le.mp c_59153)
          have h_59154 : 0 ≤ (x_59149 : Int32).toInt ∧ (x_59149 : Int32).toInt ≤ 2 := nr_lt_l h_x_59149 h_v_59152 c_59153_i (by decide) (by decide)
          have h_59155 : 1 ≤ (v_59152 : Int32).toInt ∧ (v_59152 : Int32).toInt ≤ 3 := nr_lt_r h_x_59149 h_v_59152 c_59153_i (by decide) (by decide)
          refine lv_iload_n hx hb dX2_together_26 rfl (lv_at hl 1 rfl) ?_
          refine lv_aload_n hx hb dX2_together_27 rfl (lv_at hl 2 rfl) ?_
          refine va_get (D := D) (ci := 2) (v := .ref n_weights) (C := RX2) (T := TX2) (N := 8) hx hb hts inlX2 hown hK hP 0 rfl rfl 7 (by decide) (hts (Cond.fieldLink RX2 30 "ChanceRings$Net" "weights" "[I") qw_332) (fun _ h9 => h9) rfl dX2_together_28 ?_
          refine lv_iload_n hx hb dX2_together_31 rfl (lv_at hl 3 rfl) ?_
          refine lv_iconst (v := 3) hx hb dX2_together_32 (by decide) ?_
          refine lv_imul hx hb dX2_together_33 ?_
          refine lv_topi (fun v_59156 v_59156_e => ?_)
          have h_v_59156 : 0 ≤ (v_59156 : Int32).toInt ∧ (v_59156 : Int32).toInt ≤ 33 := by rw [v_59156_e]; exact tr_mul h_p0 (⟨by decide, by decide⟩ : 3 ≤ (3 : Int32).toInt ∧ (3 : Int32).toInt ≤ 3) (by decide) (by decide) (by decide) (by decide)
          refine lv_iload_n hx hb dX2_together_34 rfl (lv_at hl 0 rfl) ?_
          refine lv_iadd hx hb dX2_together_35 ?_
          refine lv_topi (fun v_59157 v_59157_e => ?_)
          have h_v_59157 : 0 ≤ (v_59157 : Int32).toInt ∧ (v_59157 : Int32).toInt ≤ 35 := by rw [v_59157_e]; exact tr_add h_v_59156 h_59154 (by decide) (by decide) (by decide) (by decide)
          refine va_iald hx hb hK hP 3 0 rfl rfl (tr_in h_v_59157 (by decide) (by decide)) dX2_together_36 ?_
          refine lv_topi (fun v_59158 v_59158_e => ?_)
          refine lv_iadd hx hb dX2_together_37 ?_
          refine lv_topi (fun v_59159 v_59159_e => ?_)
          refine lv_istore_n (lv' := [(2, .int v_59159), (3, .int x_59149), (0, .ref n), (1, .int p0)]) hx hb dX2_together_38 rfl hl (by decide) rfl (fun ls hl => ?_)
          obtain ⟨v_59160, v_59160_e⟩ : ∃ y : Int32, y = x_59149 + Int32.ofInt 1 := ⟨_, rfl⟩
          have h_v_59160 : 1 ≤ (v_59160 : Int32).toInt ∧ (v_59160 : Int32).toInt ≤ 3 := by rw [v_59160_e]; exact tr_add h_59154 (⟨by decide, by decide⟩ : 1 ≤ (Int32.ofInt 1 : Int32).toInt ∧ (Int32.ofInt 1 : Int32).toInt ≤ 1) (by decide) (by decide) (by decide) (by decide)
          have q_v_59160 : v_59160.toInt = x_59149.toInt + 1 := by rw [v_59160_e]; exact tr_addE h_59154 (⟨by decide, by decide⟩ : 1 ≤ (Int32.ofInt 1 : Int32).toInt ∧ (Int32.ofInt 1 : Int32).toInt ≤ 1) (by decide) (by decide)
          refine lv_iinc (v := v_59160) (lv' := [(3, .int v_59160), (2, .int v_59159), (0, .ref n), (1, .int p0)]) hx hb dX2_together_39 hl (k := 1) rfl v_59160_e.symm (by decide) rfl (fun ls hl => ?_)
          refine lv_goto (tgt := 16) hx hb dX2_together_42 (by decide) ?_
          exact ih_59151 v_59160 v_59159 ls (tr_w h_v_59160 (by decide) (by decide)) (by (first | (clear h_p0 h_n_nodes h_v_59104 c_59105_i h_59106 h_v_59156 h_v_59157; omega) | omega)) (lv_sub hl [0, 1, 2, 3] rfl)
    exact lp_59151 4 0 0 ls (⟨by decide, by decide⟩ : 0 ≤ (0 : Int32).toInt ∧ (0 : Int32).toInt ≤ 3) (by decide) (lv_sub hl [0, 1, 2, 3] rfl)
  · skip
    have c_59105_i : ¬ (v_59104 : Int32).toInt = (3 : Int32).toInt := (fun q => c_59105 (Int32.toInt_inj.mp q))
    have h_59107 : 0 ≤ (v_59104 : Int32).toInt ∧ (v_59104 : Int32).toInt ≤ 2 := nr_ne_l h_v_59104 (⟨by decide, by decide⟩ : 3 ≤ (3 : Int32).toInt ∧ (3 : Int32).toInt ≤ 3) c_59105_i (by decide) (by decide)
    refine lv_iconst (v := 1) hx hb dX2_together_10 (by decide) ?_
    exact W.iret (v := 1) hx hb hr (fun t ht hW => ⟨1, rfl, trivial, ht⟩) (fun _ h => nomatch h) dX2_together_11
set_option maxHeartbeats 4000000 in
set_option maxRecDepth 100000 in
theorem c_X2_countWays (l : Launch) (D : va_G) (g : Nat → ClassId) (n : Nat) (n_nodes : Int32) (n_kind : Nat) (n_pay : Nat) (n_name : Nat) (n_ways : Nat) (n_held : Nat) (n_targets : Nat) (n_weights : Nat) (n_fways : Nat → Int32) (h_n_nodes : 0 ≤ (n_nodes : Int32).toInt ∧ (n_nodes : Int32).toInt ≤ 12) (h_n_fways : ∀ j : Nat, 0 ≤ (n_fways j).toInt ∧ (n_fways j).toInt ≤ 3) : Met l yX2_countWays (.code yX2_countWays cX2_countWays 3 (some .int) :: wsL_law) ({ frames := 0, cells := 0, slots := 0, locals := 0 }) (va_Pc [.ref n] (fun U => va_P D vwCl [(wO2 n n_nodes n_kind n_pay n_name n_ways n_held n_targets n_weights), (wI g n_ways 0 12 n_fways)] U.heap ∧ va_K D vwCl (TY g) U)) (vp_Si (fun r => True)) 0 0 (fun _ => False) := by
  refine Met.ofW (cc := cX2_countWays) (maxL := 3) (ret := (some .int)) (by decide) rfl ?_
  intro p e s m args below meth c s₁ B hml hv
  obtain ⟨ha, hP, hK⟩ := hv
  have hx := B.exec
  have hb := B.bytes
  have hr := B.returns
  have hts0 := atoms_spec (ws := (.code yX2_countWays cX2_countWays 3 (some .int) :: wsL_law)) B.pre
  have hts : ∀ w ∈ wsL_law, w.before args s = true := fun w h => hts0 w (List.mem_cons_of_mem _ h)
  have hown : s.vm.findClass RX2 = some m.cls := findClass_of_methodNamed B.named
  have hlocks := B.notSynchronized
  have hP : va_P D vwCl [(wO2 n n_nodes n_kind n_pay n_name n_ways n_held n_targets n_weights), (wI g n_ways 0 12 n_fways)] s.heap := hP
  refine W.eq (g2 := entryFrame m ([.ref n] : List Value).toArray 3) (by rw [ha]) ?_
  have hl := lv_entry ([.ref n]) (n := 3) (Nat.le_of_ble_eq_true rfl)
  rw [lg_entry_eq]
  generalize (lg_sl ([.ref n]) ++ List.replicate (3 - (lg_sl ([.ref n])).length) Slot.unset).toArray = ls at hl ⊢
  have hl : lv_has ls 3 [(0, .ref n)] := hl
  refine lv_iconst (v := 0) hx hb dX2_countWays_0 (by decide) ?_
  refine lv_istore_n (lv' := [(1, .int 0), (0, .ref n)]) hx hb dX2_countWays_1 rfl hl (by decide) rfl (fun ls hl => ?_)
  refine lv_iconst (v := 0) hx hb dX2_countWays_2 (by decide) ?_
  refine lv_istore_n (lv' := [(2, .int 0), (1, .int 0), (0, .ref n)]) hx hb dX2_countWays_3 rfl hl (by decide) rfl (fun ls hl => ?_)
  have lp_59264 : ∀ (n_59264 : Nat) (x_59262 : Int32) (x_59263 : Int32) (ls : Array Slot), (0 ≤ (x_59262 : Int32).toInt ∧ (x_59262 : Int32).toInt ≤ 12) → (12 - x_59262.toInt < (n_59264 : Int)) → lv_has ls 3 [(2, .int x_59262), (1, .int x_59263), (0, .ref n)] → W p l e (headSpec (.code yX2_countWays cX2_countWays 3 (some .int) :: wsL_law) ({ frames := 0, cells := 0, slots := 0, locals := 0 })).room s m args below meth c s.heap [] 0 0 (MQ below (vp_Si (fun r => True)) args s 0 0 (fun _ => False)) (F0 m 4 ls []) := by
    intro n_59264
    induction n_59264 with
    | zero =>
      intro x_59262 x_59263 ls h_x_59262 hm_59264 hl
      exfalso; omega
    | succ n_59264 ih_59264 =>
      intro x_59262 x_59263 ls h_x_59262 hm_59264 hl
      refine lv_iload_n hx hb dX2_countWays_4 rfl (lv_at hl 0 rfl) ?_
      refine lv_aload_n hx hb dX2_countWays_5 rfl (lv_at hl 2 rfl) ?_
      refine va_get (D := D) (ci := 2) (v := .int n_nodes) (C := RX2) (T := TX2) (N := 8) hx hb hts inlX2 hown hK hP 0 rfl rfl 0 (by decide) (hts (Cond.fieldLink RX2 33 "ChanceRings$Net" "nodes" "I") qw_313) (fun _ h9 => h9) rfl dX2_countWays_6 ?_
      refine lv_icmp_ge (tgt := 27) hx hb dX2_countWays_9 (by decide) (fun c_59265 => ?_) (fun c_59265 => ?_)
      · skip
        refine lv_iload_n hx hb dX2_countWays_27 rfl (lv_at hl 1 rfl) ?_
        exact W.iret (v := x_59263) hx hb hr (fun t ht hW => ⟨x_59263, rfl, trivial, ht⟩) (fun _ h => nomatch h) dX2_countWays_28
      · skip
        have c_59265_i := Int32.lt_iff_toInt_lt.mp (Int32.not_le.mp c_59265)
        have h_59266 : 0 ≤ (x_59262 : Int32).toInt ∧ (x_59262 : Int32).toInt ≤ 11 := nr_lt_l h_x_59262 h_n_nodes c_59265_i (by decide) (by decide)
        have h_59267 : 1 ≤ (n_nodes : Int32).toInt ∧ (n_nodes : Int32).toInt ≤ 12 := nr_lt_r h_x_59262 h_n_nodes c_59265_i (by decide) (by decide)
        refine lv_iload_n hx hb dX2_countWays_12 rfl (lv_at hl 1 rfl) ?_
        refine lv_aload_n hx hb dX2_countWays_13 rfl (lv_at hl 2 rfl) ?_
        refine va_get (D := D) (ci := 2) (v := .ref n_ways) (C := RX2) (T := TX2) (N := 8) hx hb hts inlX2 hown hK hP 0 rfl rfl 4 (by decide) (hts (Cond.fieldLink RX2 21 "ChanceRings$Net" "ways" "[I") qw_318) (fun _ h9 => h9) rfl dX2_countWays_14 ?_
        refine lv_iload_n hx hb dX2_countWays_17 rfl (lv_at hl 0 rfl) ?_
        refine va_iald hx hb hK hP 1 0 rfl rfl (tr_in h_59266 (by decide) (by decide)) dX2_countWays_18 ?_
        refine lv_topi (fun v_59268 v_59268_e => ?_)
        have h_v_59268 : 0 ≤ (v_59268 : Int32).toInt ∧ (v_59268 : Int32).toInt ≤ 3 := by rw [v_59268_e]; exact h_n_fways _
        refine lv_iadd hx hb dX2_countWays_19 ?_
        refine lv_topi (fun v_59269 v_59269_e => ?_)
        refine lv_istore_n (lv' := [(1, .int v_59269), (2, .int x_59262), (0, .ref n)]) hx hb dX2_countWays_20 rfl hl (by decide) rfl (fun ls hl => ?_)
        obtain ⟨v_59270, v_59270_e⟩ : ∃ y : Int32, y = x_59262 + Int32.ofInt 1 := ⟨_, rfl⟩
        have h_v_59270 : 1 ≤ (v_59270 : Int32).toInt ∧ (v_59270 : Int32).toInt ≤ 12 := by rw [v_59270_e]; exact tr_add h_59266 (⟨by decide, by decide⟩ : 1 ≤ (Int32.ofInt 1 : Int32).toInt ∧ (Int32.ofInt 1 : Int32).toInt ≤ 1) (by decide) (by decide) (by decide) (by decide)
        have q_v_59270 : v_59270.toInt = x_59262.toInt + 1 := by rw [v_59270_e]; exact tr_addE h_59266 (⟨by decide, by decide⟩ : 1 ≤ (Int32.ofInt 1 : Int32).toInt ∧ (Int32.ofInt 1 : Int32).toInt ≤ 1) (by decide) (by decide)
        refine lv_iinc (v := v_59270) (lv' := [(2, .int v_59270), (1, .int v_59269), (0, .ref n)]) hx hb dX2_countWays_21 hl (k := 1) rfl v_59270_e.symm (by decide) rfl (fun ls hl => ?_)
        refine lv_goto (tgt := 4) hx hb dX2_countWays_24 (by decide) ?_
        exact ih_59264 v_59270 v_59269 ls (tr_w h_v_59270 (by decide) (by decide)) (by omega) (lv_sub hl [0, 1, 2] rfl)
  exact lp_59264 13 0 0 ls (⟨by decide, by decide⟩ : 0 ≤ (0 : Int32).toInt ∧ (0 : Int32).toInt ≤ 12) (by decide) (lv_sub hl [0, 1, 2] rfl)
set_option maxHeartbeats 4000000 in
set_option maxRecDepth 100000 in
theorem c_X2_countTakable (l : Launch) (D : va_G) (g : Nat → ClassId) (n : Nat) (p0 : Int32) (n_nodes : Int32) (n_kind : Nat) (n_pay : Nat) (n_name : Nat) (n_ways : Nat) (n_held : Nat) (n_targets : Nat) (n_weights : Nat) (n_fways : Nat → Int32) (n_fheld : Nat → Int32) (h_p0 : 0 ≤ (p0 : Int32).toInt ∧ (p0 : Int32).toInt ≤ 11) (h_n_nodes : 0 ≤ (n_nodes : Int32).toInt ∧ (n_nodes : Int32).toInt ≤ 12) (h_n_fways : ∀ j : Nat, 0 ≤ (n_fways j).toInt ∧ (n_fways j).toInt ≤ 3) (h_n_fheld : ∀ j : Nat, (-1) ≤ (n_fheld j).toInt ∧ (n_fheld j).toInt ≤ 2) : Met l yX2_countTakable (.code yX2_countTakable cX2_countTakable 2 (some .int) :: wsL_law) ({ frames := 0, cells := 0, slots := 0, locals := 0 }) (va_Pc [.ref n, .int p0] (fun U => va_P D vwCl [(wO2 n n_nodes n_kind n_pay n_name n_ways n_held n_targets n_weights), (wI g n_ways 0 12 n_fways), (wI g n_held 0 12 n_fheld)] U.heap ∧ va_K D vwCl (TY g) U)) (vp_Si (fun r => True)) 0 0 (fun _ => False) := by
  refine Met.ofW (cc := cX2_countTakable) (maxL := 2) (ret := (some .int)) (by decide) rfl ?_
  intro p e s m args below meth c s₁ B hml hv
  obtain ⟨ha, hP, hK⟩ := hv
  have hx := B.exec
  have hb := B.bytes
  have hr := B.returns
  have hts0 := atoms_spec (ws := (.code yX2_countTakable cX2_countTakable 2 (some .int) :: wsL_law)) B.pre
  have hts : ∀ w ∈ wsL_law, w.before args s = true := fun w h => hts0 w (List.mem_cons_of_mem _ h)
  have hown : s.vm.findClass RX2 = some m.cls := findClass_of_methodNamed B.named
  have hlocks := B.notSynchronized
  have hP : va_P D vwCl [(wO2 n n_nodes n_kind n_pay n_name n_ways n_held n_targets n_weights), (wI g n_ways 0 12 n_fways), (wI g n_held 0 12 n_fheld)] s.heap := hP
  refine W.eq (g2 := entryFrame m ([.ref n, .int p0] : List Value).toArray 2) (by rw [ha]) ?_
  have hl := lv_entry ([.ref n, .int p0]) (n := 2) (Nat.le_of_ble_eq_true rfl)
  rw [lg_entry_eq]
  generalize (lg_sl ([.ref n, .int p0]) ++ List.replicate (2 - (lg_sl ([.ref n, .int p0])).length) Slot.unset).toArray = ls at hl ⊢
  have hl : lv_has ls 2 [(0, .ref n), (1, .int p0)] := hl
  refine lv_aload_n hx hb dX2_countTakable_0 rfl (lv_at hl 0 rfl) ?_
  refine va_get (D := D) (ci := 2) (v := .ref n_held) (C := RX2) (T := TX2) (N := 8) hx hb hts inlX2 hown hK hP 0 rfl rfl 5 (by decide) (hts (Cond.fieldLink RX2 24 "ChanceRings$Net" "held" "[I") qw_314) (fun _ h9 => h9) rfl dX2_countTakable_1 ?_
  refine lv_iload_n hx hb dX2_countTakable_4 rfl (lv_at hl 1 rfl) ?_
  refine va_iald hx hb hK hP 2 0 rfl rfl (tr_in h_p0 (by decide) (by decide)) dX2_countTakable_5 ?_
  refine lv_topi (fun v_59271 v_59271_e => ?_)
  have h_v_59271 : (-1) ≤ (v_59271 : Int32).toInt ∧ (v_59271 : Int32).toInt ≤ 2 := by rw [v_59271_e]; exact h_n_fheld _
  refine lv_iconst (v := (-1)) hx hb dX2_countTakable_6 (by decide) ?_
  refine lv_icmp_ne (tgt := 19) hx hb dX2_countTakable_7 (by decide) (fun c_59272 => ?_) (fun c_59272 => ?_)
  · skip
    have c_59272_i : ¬ (v_59271 : Int32).toInt = ((-1) : Int32).toInt := (fun q => c_59272 (Int32.toInt_inj.mp q))
    have h_59273 : 0 ≤ (v_59271 : Int32).toInt ∧ (v_59271 : Int32).toInt ≤ 2 := nr_ne_l h_v_59271 (⟨by decide, by decide⟩ : (-1) ≤ ((-1) : Int32).toInt ∧ ((-1) : Int32).toInt ≤ (-1)) c_59272_i (by decide) (by decide)
    refine lv_iconst (v := 1) hx hb dX2_countTakable_19 (by decide) ?_
    exact W.iret (v := 1) hx hb hr (fun t ht hW => ⟨1, rfl, trivial, ht⟩) (fun _ h => nomatch h) dX2_countTakable_20
  · skip
    have c_59272_i : (v_59271 : Int32).toInt = ((-1) : Int32).toInt := congrArg Int32.toInt c_59272
    have h_59274 : (-1) ≤ (v_59271 : Int32).toInt ∧ (v_59271 : Int32).toInt ≤ (-1) := nr_eq_l h_v_59271 (⟨by decide, by decide⟩ : (-1) ≤ ((-1) : Int32).toInt ∧ ((-1) : Int32).toInt ≤ (-1)) c_59272_i (by decide) (by decide)
    refine lv_aload_n hx hb dX2_countTakable_10 rfl (lv_at hl 0 rfl) ?_
    refine va_get (D := D) (ci := 2) (v := .ref n_ways) (C := RX2) (T := TX2) (N := 8) hx hb hts inlX2 hown hK hP 0 rfl rfl 4 (by decide) (hts (Cond.fieldLink RX2 21 "ChanceRings$Net" "ways" "[I") qw_318) (fun _ h9 => h9) rfl dX2_countTakable_11 ?_
    refine lv_iload_n hx hb dX2_countTakable_14 rfl (lv_at hl 1 rfl) ?_
    refine va_iald hx hb hK hP 1 0 rfl rfl (tr_in h_p0 (by decide) (by decide)) dX2_countTakable_15 ?_
    refine lv_topi (fun v_59275 v_59275_e => ?_)
    have h_v_59275 : 0 ≤ (v_59275 : Int32).toInt ∧ (v_59275 : Int32).toInt ≤ 3 := by rw [v_59275_e]; exact h_n_fways _
    refine lv_goto (tgt := 20) hx hb dX2_countTakable_16 (by decide) ?_
    exact W.iret (v := v_59275) hx hb hr (fun t ht hW => ⟨v_59275, rfl, trivial, ht⟩) (fun _ h => nomatch h) dX2_countTakable_20
set_option maxHeartbeats 4000000 in
set_option maxRecDepth 100000 in
theorem c_X2_heldNodes (l : Launch) (D : va_G) (g : Nat → ClassId) (n : Nat) (n_nodes : Int32) (n_kind : Nat) (n_pay : Nat) (n_name : Nat) (n_ways : Nat) (n_held : Nat) (n_targets : Nat) (n_weights : Nat) (n_fheld : Nat → Int32) (h_n_nodes : 0 ≤ (n_nodes : Int32).toInt ∧ (n_nodes : Int32).toInt ≤ 12) (h_n_fheld : ∀ j : Nat, (-1) ≤ (n_fheld j).toInt ∧ (n_fheld j).toInt ≤ 2) : Met l yX2_heldNodes (.code yX2_heldNodes cX2_heldNodes 3 (some .int) :: wsL_law) ({ frames := 0, cells := 0, slots := 0, locals := 0 }) (va_Pc [.ref n] (fun U => va_P D vwCl [(wO2 n n_nodes n_kind n_pay n_name n_ways n_held n_targets n_weights), (wI g n_held 0 12 n_fheld)] U.heap ∧ va_K D vwCl (TY g) U)) (vp_Si (fun r => True)) 0 0 (fun _ => False) := by
  refine Met.ofW (cc := cX2_heldNodes) (maxL := 3) (ret := (some .int)) (by decide) rfl ?_
  intro p e s m args below meth c s₁ B hml hv
  obtain ⟨ha, hP, hK⟩ := hv
  have hx := B.exec
  have hb := B.bytes
  have hr := B.returns
  have hts0 := atoms_spec (ws := (.code yX2_heldNodes cX2_heldNodes 3 (some .int) :: wsL_law)) B.pre
  have hts : ∀ w ∈ wsL_law, w.before args s = true := fun w h => hts0 w (List.mem_cons_of_mem _ h)
  have hown : s.vm.findClass RX2 = some m.cls := findClass_of_methodNamed B.named
  have hlocks := B.notSynchronized
  have hP : va_P D vwCl [(wO2 n n_nodes n_kind n_pay n_name n_ways n_held n_targets n_weights), (wI g n_held 0 12 n_fheld)] s.heap := hP
  refine W.eq (g2 := entryFrame m ([.ref n] : List Value).toArray 3) (by rw [ha]) ?_
  have hl := lv_entry ([.ref n]) (n := 3) (Nat.le_of_ble_eq_true rfl)
  rw [lg_entry_eq]
  generalize (lg_sl ([.ref n]) ++ List.replicate (3 - (lg_sl ([.ref n])).length) Slot.unset).toArray = ls at hl ⊢
  have hl : lv_has ls 3 [(0, .ref n)] := hl
  refine lv_iconst (v := 0) hx hb dX2_heldNodes_0 (by decide) ?_
  refine lv_istore_n (lv' := [(1, .int 0), (0, .ref n)]) hx hb dX2_heldNodes_1 rfl hl (by decide) rfl (fun ls hl => ?_)
  refine lv_iconst (v := 0) hx hb dX2_heldNodes_2 (by decide) ?_
  refine lv_istore_n (lv' := [(2, .int 0), (1, .int 0), (0, .ref n)]) hx hb dX2_heldNodes_3 rfl hl (by decide) rfl (fun ls hl => ?_)
  have lp_59376 : ∀ (n_59376 : Nat) (x_59374 : Int32) (x_59375 : Int32) (ls : Array Slot), (0 ≤ (x_59374 : Int32).toInt ∧ (x_59374 : Int32).toInt ≤ 12) → (12 - x_59374.toInt < (n_59376 : Int)) → lv_has ls 3 [(2, .int x_59374), (1, .int x_59375), (0, .ref n)] → W p l e (headSpec (.code yX2_heldNodes cX2_heldNodes 3 (some .int) :: wsL_law) ({ frames := 0, cells := 0, slots := 0, locals := 0 })).room s m args below meth c s.heap [] 0 0 (MQ below (vp_Si (fun r => True)) args s 0 0 (fun _ => False)) (F0 m 4 ls []) := by
    intro n_59376
    induction n_59376 with
    | zero =>
      intro x_59374 x_59375 ls h_x_59374 hm_59376 hl
      exfalso; omega
    | succ n_59376 ih_59376 =>
      intro x_59374 x_59375 ls h_x_59374 hm_59376 hl
      refine lv_iload_n hx hb dX2_heldNodes_4 rfl (lv_at hl 0 rfl) ?_
      refine lv_aload_n hx hb dX2_heldNodes_5 rfl (lv_at hl 2 rfl) ?_
      refine va_get (D := D) (ci := 2) (v := .int n_nodes) (C := RX2) (T := TX2) (N := 8) hx hb hts inlX2 hown hK hP 0 rfl rfl 0 (by decide) (hts (Cond.fieldLink RX2 33 "ChanceRings$Net" "nodes" "I") qw_313) (fun _ h9 => h9) rfl dX2_heldNodes_6 ?_
      refine lv_icmp_ge (tgt := 34) hx hb dX2_heldNodes_9 (by decide) (fun c_59377 => ?_) (fun c_59377 => ?_)
      · skip
        refine lv_iload_n hx hb dX2_heldNodes_34 rfl (lv_at hl 1 rfl) ?_
        exact W.iret (v := x_59375) hx hb hr (fun t ht hW => ⟨x_59375, rfl, trivial, ht⟩) (fun _ h => nomatch h) dX2_heldNodes_35
      · skip
        have c_59377_i := Int32.lt_iff_toInt_lt.mp (Int32.not_le.mp c_59377)
        have h_59378 : 0 ≤ (x_59374 : Int32).toInt ∧ (x_59374 : Int32).toInt ≤ 11 := nr_lt_l h_x_59374 h_n_nodes c_59377_i (by decide) (by decide)
        have h_59379 : 1 ≤ (n_nodes : Int32).toInt ∧ (n_nodes : Int32).toInt ≤ 12 := nr_lt_r h_x_59374 h_n_nodes c_59377_i (by decide) (by decide)
        refine lv_aload_n hx hb dX2_heldNodes_12 rfl (lv_at hl 2 rfl) ?_
        refine va_get (D := D) (ci := 2) (v := .ref n_held) (C := RX2) (T := TX2) (N := 8) hx hb hts inlX2 hown hK hP 0 rfl rfl 5 (by decide) (hts (Cond.fieldLink RX2 24 "ChanceRings$Net" "held" "[I") qw_314) (fun _ h9 => h9) rfl dX2_heldNodes_13 ?_
        refine lv_iload_n hx hb dX2_heldNodes_16 rfl (lv_at hl 0 rfl) ?_
        refine va_iald hx hb hK hP 1 0 rfl rfl (tr_in h_59378 (by decide) (by decide)) dX2_heldNodes_17 ?_
        refine lv_topi (fun v_59380 v_59380_e => ?_)
        have h_v_59380 : (-1) ≤ (v_59380 : Int32).toInt ∧ (v_59380 : Int32).toInt ≤ 2 := by rw [v_59380_e]; exact h_n_fheld _
        refine lv_iconst (v := (-1)) hx hb dX2_heldNodes_18 (by decide) ?_
        refine lv_icmp_eq (tgt := 28) hx hb dX2_heldNodes_19 (by decide) (fun c_59381 => ?_) (fun c_59381 => ?_)
        · skip
          have c_59381_i : (v_59380 : Int32).toInt = ((-1) : Int32).toInt := congrArg Int32.toInt c_59381
          have h_59382 : (-1) ≤ (v_59380 : Int32).toInt ∧ (v_59380 : Int32).toInt ≤ (-1) := nr_eq_l h_v_59380 (⟨by decide, by decide⟩ : (-1) ≤ ((-1) : Int32).toInt ∧ ((-1) : Int32).toInt ≤ (-1)) c_59381_i (by decide) (by decide)
          obtain ⟨v_59384, v_59384_e⟩ : ∃ y : Int32, y = x_59374 + Int32.ofInt 1 := ⟨_, rfl⟩
          have h_v_59384 : 1 ≤ (v_59384 : Int32).toInt ∧ (v_59384 : Int32).toInt ≤ 12 := by rw [v_59384_e]; exact tr_add h_59378 (⟨by decide, by decide⟩ : 1 ≤ (Int32.ofInt 1 : Int32).toInt ∧ (Int32.ofInt 1 : Int32).toInt ≤ 1) (by decide) (by decide) (by decide) (by decide)
          have q_v_59384 : v_59384.toInt = x_59374.toInt + 1 := by rw [v_59384_e]; exact tr_addE h_59378 (⟨by decide, by decide⟩ : 1 ≤ (Int32.ofInt 1 : Int32).toInt ∧ (Int32.ofInt 1 : Int32).toInt ≤ 1) (by decide) (by decide)
          refine lv_iinc (v := v_59384) (lv' := [(2, .int v_59384), (1, .int x_59375), (0, .ref n)]) hx hb dX2_heldNodes_28 hl (k := 0) rfl v_59384_e.symm (by decide) rfl (fun ls hl => ?_)
          refine lv_goto (tgt := 4) hx hb dX2_heldNodes_31 (by decide) ?_
          exact ih_59376 v_59384 x_59375 ls (tr_w h_v_59384 (by decide) (by decide)) (by omega) (lv_sub hl [0, 1, 2] rfl)
        · skip
          have c_59381_i : ¬ (v_59380 : Int32).toInt = ((-1) : Int32).toInt := (fun q => c_59381 (Int32.toInt_inj.mp q))
          have h_59383 : 0 ≤ (v_59380 : Int32).toInt ∧ (v_59380 : Int32).toInt ≤ 2 := nr_ne_l h_v_59380 (⟨by decide, by decide⟩ : (-1) ≤ ((-1) : Int32).toInt ∧ ((-1) : Int32).toInt ≤ (-1)) c_59381_i (by decide) (by decide)
          refine lv_iload_n hx hb dX2_heldNodes_22 rfl (lv_at hl 1 rfl) ?_
          refine lv_iconst (v := 1) hx hb dX2_heldNodes_23 (by decide) ?_
          refine lv_iload_n hx hb dX2_heldNodes_24 rfl (lv_at hl 0 rfl) ?_
          refine lv_ishl hx hb dX2_heldNodes_25 ?_
          refine lv_topi (fun v_59385 v_59385_e => ?_)
          refine lv_ior hx hb dX2_heldNodes_26 ?_
          refine lv_topi (fun v_59386 v_59386_e => ?_)
          refine lv_istore_n (lv' := [(1, .int v_59386), (2, .int x_59374), (0, .ref n)]) hx hb dX2_heldNodes_27 rfl hl (by decide) rfl (fun ls hl => ?_)
          obtain ⟨v_59387, v_59387_e⟩ : ∃ y : Int32, y = x_59374 + Int32.ofInt 1 := ⟨_, rfl⟩
          have h_v_59387 : 1 ≤ (v_59387 : Int32).toInt ∧ (v_59387 : Int32).toInt ≤ 12 := by rw [v_59387_e]; exact tr_add h_59378 (⟨by decide, by decide⟩ : 1 ≤ (Int32.ofInt 1 : Int32).toInt ∧ (Int32.ofInt 1 : Int32).toInt ≤ 1) (by decide) (by decide) (by decide) (by decide)
          have q_v_59387 : v_59387.toInt = x_59374.toInt + 1 := by rw [v_59387_e]; exact tr_addE h_59378 (⟨by decide, by decide⟩ : 1 ≤ (Int32.ofInt 1 : Int32).toInt ∧ (Int32.ofInt 1 : Int32).toInt ≤ 1) (by decide) (by decide)
          refine lv_iinc (v := v_59387) (lv' := [(2, .int v_59387), (1, .int v_59386), (0, .ref n)]) hx hb dX2_heldNodes_28 hl (k := 1) rfl v_59387_e.symm (by decide) rfl (fun ls hl => ?_)
          refine lv_goto (tgt := 4) hx hb dX2_heldNodes_31 (by decide) ?_
          exact ih_59376 v_59387 v_59386 ls (tr_w h_v_59387 (by decide) (by decide)) (by omega) (lv_sub hl [0, 1, 2] rfl)
  exact lp_59376 13 0 0 ls (⟨by decide, by decide⟩ : 0 ≤ (0 : Int32).toInt ∧ (0 : Int32).toInt ≤ 12) (by decide) (lv_sub hl [0, 1, 2] rfl)
set_option maxHeartbeats 4000000 in
set_option maxRecDepth 100000 in
theorem c_X2_setWeight (l : Launch) (D : va_G) (g : Nat → ClassId) (sz : Nat) (n : Nat) (p0 : Int32) (p1 : Int32) (p2 : Int32) (n_nodes : Int32) (n_kind : Nat) (n_pay : Nat) (n_name : Nat) (n_ways : Nat) (n_held : Nat) (n_targets : Nat) (n_weights : Nat) (n_fweights : Nat → Int32) (h_p0 : 0 ≤ (p0 : Int32).toInt ∧ (p0 : Int32).toInt ≤ 11) (h_p1 : 0 ≤ (p1 : Int32).toInt ∧ (p1 : Int32).toInt ≤ 2) (h_n_nodes : 0 ≤ (n_nodes : Int32).toInt ∧ (n_nodes : Int32).toInt ≤ 12) : Met l yX2_setWeight (.code yX2_setWeight cX2_setWeight 4 none :: wsL_law) ({ frames := 0, cells := 0, slots := 0, locals := 0 }) (va_Pc [.ref n, .int p0, .int p1, .int p2] (fun U => U.heap.size = sz ∧ va_P D vwCl [(wO2 n n_nodes n_kind n_pay n_name n_ways n_held n_targets n_weights), (wI g n_weights 0 36 n_fweights)] U.heap ∧ va_K D vwCl (TY g) U ∧ va_D (fun _ => True) [(wO2 n n_nodes n_kind n_pay n_name n_ways n_held n_targets n_weights), (wI g n_weights 0 36 n_fweights)])) (va_Qv (fun (_ : Unit) => True) (fun _ t => ∃ n_gweights : Nat → Int32, va_P D vwCl [(wO2 n n_nodes n_kind n_pay n_name n_ways n_held n_targets n_weights), (wI g n_weights 0 36 n_gweights)] t.heap ∧ va_D (va_A [(wO2 n n_nodes n_kind n_pay n_name n_ways n_held n_targets n_weights), (wI g n_weights 0 36 n_fweights)] sz) [(wO2 n n_nodes n_kind n_pay n_name n_ways n_held n_targets n_weights), (wI g n_weights 0 36 n_gweights)]) (va_A [(wO2 n n_nodes n_kind n_pay n_name n_ways n_held n_targets n_weights), (wI g n_weights 0 36 n_fweights)] sz)) 0 0 (va_A [(wO2 n n_nodes n_kind n_pay n_name n_ways n_held n_targets n_weights), (wI g n_weights 0 36 n_fweights)] sz) := by
  refine Met.ofW (cc := cX2_setWeight) (maxL := 4) (ret := none) (by decide) rfl ?_
  intro p e s m args below meth c s₁ B hml hv
  obtain ⟨ha, hsz, hP, hK, hD0⟩ := hv
  have hx := B.exec
  have hb := B.bytes
  have hr := B.returns
  have hts0 := atoms_spec (ws := (.code yX2_setWeight cX2_setWeight 4 none :: wsL_law)) B.pre
  have hts : ∀ w ∈ wsL_law, w.before args s = true := fun w h => hts0 w (List.mem_cons_of_mem _ h)
  have hown : s.vm.findClass RX2 = some m.cls := findClass_of_methodNamed B.named
  have hlocks := B.notSynchronized
  subst hsz
  have hD := hD0.self (sz := s.heap.size)
  generalize hAe : va_A [(wO2 n n_nodes n_kind n_pay n_name n_ways n_held n_targets n_weights), (wI g n_weights 0 36 n_fweights)] s.heap.size = A at hD ⊢
  have hA : ∀ q : Nat, s.heap.size ≤ q → A q := fun q h => by rw [← hAe]; exact Or.inr h
  have hS : va_S A s.heap s.heap [] := va_S.rf
  have hP : va_P D vwCl [(wO2 n n_nodes n_kind n_pay n_name n_ways n_held n_targets n_weights), (wI g n_weights 0 36 n_fweights)] s.heap := hP
  refine W.eq (g2 := entryFrame m ([.ref n, .int p0, .int p1, .int p2] : List Value).toArray 4) (by rw [ha]) ?_
  have hl := lv_entry ([.ref n, .int p0, .int p1, .int p2]) (n := 4) (Nat.le_of_ble_eq_true rfl)
  rw [lg_entry_eq]
  generalize (lg_sl ([.ref n, .int p0, .int p1, .int p2]) ++ List.replicate (4 - (lg_sl ([.ref n, .int p0, .int p1, .int p2])).length) Slot.unset).toArray = ls at hl ⊢
  have hl : lv_has ls 4 [(0, .ref n), (1, .int p0), (2, .int p1), (3, .int p2)] := hl
  refine lv_aload_n hx hb dX2_setWeight_0 rfl (lv_at hl 0 rfl) ?_
  refine va_get (D := D) (ci := 2) (v := .ref n_weights) (C := RX2) (T := TX2) (N := 8) hx hb hts inlX2 hown hK hP 0 rfl rfl 7 (by decide) (hts (Cond.fieldLink RX2 30 "ChanceRings$Net" "weights" "[I") qw_332) (fun _ h9 => h9) rfl dX2_setWeight_1 ?_
  refine lv_iload_n hx hb dX2_setWeight_4 rfl (lv_at hl 1 rfl) ?_
  refine lv_iconst (v := 3) hx hb dX2_setWeight_5 (by decide) ?_
  refine lv_imul hx hb dX2_setWeight_6 ?_
  refine lv_topi (fun v_59388 v_59388_e => ?_)
  have h_v_59388 : 0 ≤ (v_59388 : Int32).toInt ∧ (v_59388 : Int32).toInt ≤ 33 := by rw [v_59388_e]; exact tr_mul h_p0 (⟨by decide, by decide⟩ : 3 ≤ (3 : Int32).toInt ∧ (3 : Int32).toInt ≤ 3) (by decide) (by decide) (by decide) (by decide)
  refine lv_iload_n hx hb dX2_setWeight_7 rfl (lv_at hl 2 rfl) ?_
  refine lv_iadd hx hb dX2_setWeight_8 ?_
  refine lv_topi (fun v_59389 v_59389_e => ?_)
  have h_v_59389 : 0 ≤ (v_59389 : Int32).toInt ∧ (v_59389 : Int32).toInt ≤ 35 := by rw [v_59389_e]; exact tr_add h_v_59388 h_p1 (by decide) (by decide) (by decide) (by decide)
  refine lv_iload_n hx hb dX2_setWeight_9 rfl (lv_at hl 3 rfl) ?_
  refine va_iast hx hb hK hP hD hS 1 0 rfl rfl (tr_in h_v_59389 (by decide) (by decide)) dX2_setWeight_10 (fun H locs hP hD hS => ?_)
  obtain ⟨f_59390, hP, hD⟩ : ∃ FX : Nat → Int32, va_P D vwCl [(wO2 n n_nodes n_kind n_pay n_name n_ways n_held n_targets n_weights), (wI g n_weights 0 36 FX)] H ∧ va_D A [(wO2 n n_nodes n_kind n_pay n_name n_ways n_held n_targets n_weights), (wI g n_weights 0 36 FX)] := ⟨_, hP, hD⟩
  have hP : va_P D vwCl [(wO2 n n_nodes n_kind n_pay n_name n_ways n_held n_targets n_weights), (wI g n_weights 0 36 f_59390)] H := hP
  have hD : va_D A [(wO2 n n_nodes n_kind n_pay n_name n_ways n_held n_targets n_weights), (wI g n_weights 0 36 f_59390)] := hD
  have hP9 := hP.sub (ws' := [(wO2 n n_nodes n_kind n_pay n_name n_ways n_held n_targets n_weights), (wI g n_weights 0 36 f_59390)]) [0, 1] rfl
  have hD9 := hD.sub (ws' := [(wO2 n n_nodes n_kind n_pay n_name n_ways n_held n_targets n_weights), (wI g n_weights 0 36 f_59390)]) [0, 1] (by decide) rfl
  exact W.vret hx hb hr (fun t ht hW => ⟨⟨(), rfl, trivial, f_59390, by rw [ht]; exact hP9, hD9⟩, hS.F ht⟩) hS.2.2 dX2_setWeight_11
theorem qw_333 : Cond.fieldLink RX2 18 "ChanceRings$Net" "name" "[I" ∈ wsL_law := tseg_1 (by decide +kernel) (List.mem_of_getElem? (i := 76) rfl)
theorem dX2_addNode_0 : decode cX2_addNode 0 = .ok (.aload_n 0, 1) := by decide +kernel
theorem dX2_addNode_1 : decode cX2_addNode 1 = .ok (.getfield 33, 3) := by decide +kernel
theorem dX2_addNode_4 : decode cX2_addNode 4 = .ok (.bipush 12, 2) := by decide +kernel
theorem dX2_addNode_6 : decode cX2_addNode 6 = .ok (.if_icmp .ge 63, 3) := by decide +kernel
theorem dX2_addNode_9 : decode cX2_addNode 9 = .ok (.aload_n 0, 1) := by decide +kernel
theorem dX2_addNode_10 : decode cX2_addNode 10 = .ok (.getfield 9, 3) := by decide +kernel
theorem dX2_addNode_13 : decode cX2_addNode 13 = .ok (.aload_n 0, 1) := by decide +kernel
theorem dX2_addNode_14 : decode cX2_addNode 14 = .ok (.getfield 33, 3) := by decide +kernel
theorem dX2_addNode_17 : decode cX2_addNode 17 = .ok (.iload_n 1, 1) := by decide +kernel
theorem dX2_addNode_18 : decode cX2_addNode 18 = .ok (.iastore, 1) := by decide +kernel
theorem dX2_addNode_19 : decode cX2_addNode 19 = .ok (.aload_n 0, 1) := by decide +kernel
theorem dX2_addNode_20 : decode cX2_addNode 20 = .ok (.getfield 18, 3) := by decide +kernel
theorem dX2_addNode_23 : decode cX2_addNode 23 = .ok (.aload_n 0, 1) := by decide +kernel
theorem dX2_addNode_24 : decode cX2_addNode 24 = .ok (.getfield 33, 3) := by decide +kernel
theorem dX2_addNode_27 : decode cX2_addNode 27 = .ok (.iload_n 2, 1) := by decide +kernel
theorem dX2_addNode_28 : decode cX2_addNode 28 = .ok (.iastore, 1) := by decide +kernel
theorem dX2_addNode_29 : decode cX2_addNode 29 = .ok (.aload_n 0, 1) := by decide +kernel
theorem dX2_addNode_30 : decode cX2_addNode 30 = .ok (.getfield 15, 3) := by decide +kernel
theorem dX2_addNode_33 : decode cX2_addNode 33 = .ok (.aload_n 0, 1) := by decide +kernel
theorem dX2_addNode_34 : decode cX2_addNode 34 = .ok (.getfield 33, 3) := by decide +kernel
theorem dX2_addNode_37 : decode cX2_addNode 37 = .ok (.iload_n 3, 1) := by decide +kernel
theorem dX2_addNode_38 : decode cX2_addNode 38 = .ok (.iastore, 1) := by decide +kernel
theorem dX2_addNode_39 : decode cX2_addNode 39 = .ok (.aload_n 0, 1) := by decide +kernel
theorem dX2_addNode_40 : decode cX2_addNode 40 = .ok (.getfield 21, 3) := by decide +kernel
theorem dX2_addNode_43 : decode cX2_addNode 43 = .ok (.aload_n 0, 1) := by decide +kernel
theorem dX2_addNode_44 : decode cX2_addNode 44 = .ok (.getfield 33, 3) := by decide +kernel
theorem dX2_addNode_47 : decode cX2_addNode 47 = .ok (.iconst 0, 1) := by decide +kernel
theorem dX2_addNode_48 : decode cX2_addNode 48 = .ok (.iastore, 1) := by decide +kernel
theorem dX2_addNode_49 : decode cX2_addNode 49 = .ok (.aload_n 0, 1) := by decide +kernel
theorem dX2_addNode_50 : decode cX2_addNode 50 = .ok (.getfield 24, 3) := by decide +kernel
theorem dX2_addNode_53 : decode cX2_addNode 53 = .ok (.aload_n 0, 1) := by decide +kernel
theorem dX2_addNode_54 : decode cX2_addNode 54 = .ok (.getfield 33, 3) := by decide +kernel
theorem dX2_addNode_57 : decode cX2_addNode 57 = .ok (.iconst (-1), 1) := by decide +kernel
theorem dX2_addNode_58 : decode cX2_addNode 58 = .ok (.iastore, 1) := by decide +kernel
theorem dX2_addNode_59 : decode cX2_addNode 59 = .ok (.aload_n 0, 1) := by decide +kernel
theorem dX2_addNode_60 : decode cX2_addNode 60 = .ok (.dup, 1) := by decide +kernel
theorem dX2_addNode_61 : decode cX2_addNode 61 = .ok (.getfield 33, 3) := by decide +kernel
theorem dX2_addNode_64 : decode cX2_addNode 64 = .ok (.iconst 1, 1) := by decide +kernel
theorem dX2_addNode_65 : decode cX2_addNode 65 = .ok (.iadd, 1) := by decide +kernel
theorem dX2_addNode_66 : decode cX2_addNode 66 = .ok (.putfield 33, 3) := by decide +kernel
theorem dX2_addNode_69 : decode cX2_addNode 69 = .ok (.return_, 1) := by decide +kernel
theorem dX2_addWay_0 : decode cX2_addWay 0 = .ok (.aload_n 0, 1) := by decide +kernel
theorem dX2_addWay_1 : decode cX2_addWay 1 = .ok (.getfield 21, 3) := by decide +kernel
theorem dX2_addWay_4 : decode cX2_addWay 4 = .ok (.iload_n 1, 1) := by decide +kernel
theorem dX2_addWay_5 : decode cX2_addWay 5 = .ok (.iaload, 1) := by decide +kernel
theorem dX2_addWay_6 : decode cX2_addWay 6 = .ok (.iconst 3, 1) := by decide +kernel
theorem dX2_addWay_7 : decode cX2_addWay 7 = .ok (.if_icmp .ge 45, 3) := by decide +kernel
theorem dX2_addWay_10 : decode cX2_addWay 10 = .ok (.aload_n 0, 1) := by decide +kernel
theorem dX2_addWay_11 : decode cX2_addWay 11 = .ok (.getfield 27, 3) := by decide +kernel
theorem dX2_addWay_14 : decode cX2_addWay 14 = .ok (.iload_n 1, 1) := by decide +kernel
theorem dX2_addWay_15 : decode cX2_addWay 15 = .ok (.iconst 3, 1) := by decide +kernel
theorem dX2_addWay_16 : decode cX2_addWay 16 = .ok (.imul, 1) := by decide +kernel
theorem dX2_addWay_17 : decode cX2_addWay 17 = .ok (.aload_n 0, 1) := by decide +kernel
theorem dX2_addWay_18 : decode cX2_addWay 18 = .ok (.getfield 21, 3) := by decide +kernel
theorem dX2_addWay_21 : decode cX2_addWay 21 = .ok (.iload_n 1, 1) := by decide +kernel
theorem dX2_addWay_22 : decode cX2_addWay 22 = .ok (.iaload, 1) := by decide +kernel
theorem dX2_addWay_23 : decode cX2_addWay 23 = .ok (.iadd, 1) := by decide +kernel
theorem dX2_addWay_24 : decode cX2_addWay 24 = .ok (.iload_n 2, 1) := by decide +kernel
theorem dX2_addWay_25 : decode cX2_addWay 25 = .ok (.iastore, 1) := by decide +kernel
theorem dX2_addWay_26 : decode cX2_addWay 26 = .ok (.aload_n 0, 1) := by decide +kernel
theorem dX2_addWay_27 : decode cX2_addWay 27 = .ok (.getfield 30, 3) := by decide +kernel
theorem dX2_addWay_30 : decode cX2_addWay 30 = .ok (.iload_n 1, 1) := by decide +kernel
theorem dX2_addWay_31 : decode cX2_addWay 31 = .ok (.iconst 3, 1) := by decide +kernel
theorem dX2_addWay_32 : decode cX2_addWay 32 = .ok (.imul, 1) := by decide +kernel
theorem dX2_addWay_33 : decode cX2_addWay 33 = .ok (.aload_n 0, 1) := by decide +kernel
theorem dX2_addWay_34 : decode cX2_addWay 34 = .ok (.getfield 21, 3) := by decide +kernel
theorem dX2_addWay_37 : decode cX2_addWay 37 = .ok (.iload_n 1, 1) := by decide +kernel
theorem dX2_addWay_38 : decode cX2_addWay 38 = .ok (.iaload, 1) := by decide +kernel
theorem dX2_addWay_39 : decode cX2_addWay 39 = .ok (.iadd, 1) := by decide +kernel
theorem dX2_addWay_40 : decode cX2_addWay 40 = .ok (.iload_n 3, 1) := by decide +kernel
theorem dX2_addWay_41 : decode cX2_addWay 41 = .ok (.iastore, 1) := by decide +kernel
theorem dX2_addWay_42 : decode cX2_addWay 42 = .ok (.aload_n 0, 1) := by decide +kernel
theorem dX2_addWay_43 : decode cX2_addWay 43 = .ok (.getfield 21, 3) := by decide +kernel
theorem dX2_addWay_46 : decode cX2_addWay 46 = .ok (.iload_n 1, 1) := by decide +kernel
theorem dX2_addWay_47 : decode cX2_addWay 47 = .ok (.dup2, 1) := by decide +kernel
theorem dX2_addWay_48 : decode cX2_addWay 48 = .ok (.iaload, 1) := by decide +kernel
theorem dX2_addWay_49 : decode cX2_addWay 49 = .ok (.iconst 1, 1) := by decide +kernel
theorem dX2_addWay_50 : decode cX2_addWay 50 = .ok (.iadd, 1) := by decide +kernel
theorem dX2_addWay_51 : decode cX2_addWay 51 = .ok (.iastore, 1) := by decide +kernel
theorem dX2_addWay_52 : decode cX2_addWay 52 = .ok (.return_, 1) := by decide +kernel
theorem dX2_countOf_0 : decode cX2_countOf 0 = .ok (.iconst 0, 1) := by decide +kernel
theorem dX2_countOf_1 : decode cX2_countOf 1 = .ok (.istore_n 2, 1) := by decide +kernel
theorem dX2_countOf_2 : decode cX2_countOf 2 = .ok (.iconst 0, 1) := by decide +kernel
theorem dX2_countOf_3 : decode cX2_countOf 3 = .ok (.istore_n 3, 1) := by decide +kernel
theorem dX2_countOf_4 : decode cX2_countOf 4 = .ok (.iload_n 3, 1) := by decide +kernel
theorem dX2_countOf_5 : decode cX2_countOf 5 = .ok (.aload_n 0, 1) := by decide +kernel
theorem dX2_countOf_6 : decode cX2_countOf 6 = .ok (.getfield 33, 3) := by decide +kernel
theorem dX2_countOf_9 : decode cX2_countOf 9 = .ok (.if_icmp .ge 22, 3) := by decide +kernel
theorem dX2_countOf_12 : decode cX2_countOf 12 = .ok (.aload_n 0, 1) := by decide +kernel
theorem dX2_countOf_13 : decode cX2_countOf 13 = .ok (.getfield 9, 3) := by decide +kernel
theorem dX2_countOf_16 : decode cX2_countOf 16 = .ok (.iload_n 3, 1) := by decide +kernel
theorem dX2_countOf_17 : decode cX2_countOf 17 = .ok (.iaload, 1) := by decide +kernel
theorem dX2_countOf_18 : decode cX2_countOf 18 = .ok (.iload_n 1, 1) := by decide +kernel
theorem dX2_countOf_19 : decode cX2_countOf 19 = .ok (.if_icmp .ne 6, 3) := by decide +kernel
theorem dX2_countOf_22 : decode cX2_countOf 22 = .ok (.iinc 2 1, 3) := by decide +kernel
theorem dX2_countOf_25 : decode cX2_countOf 25 = .ok (.iinc 3 1, 3) := by decide +kernel
theorem dX2_countOf_28 : decode cX2_countOf 28 = .ok (.goto (-24), 3) := by decide +kernel
theorem dX2_countOf_31 : decode cX2_countOf 31 = .ok (.iload_n 2, 1) := by decide +kernel
theorem dX2_countOf_32 : decode cX2_countOf 32 = .ok (.ireturn, 1) := by decide +kernel
theorem dX2_find_0 : decode cX2_find 0 = .ok (.iconst 0, 1) := by decide +kernel
theorem dX2_find_1 : decode cX2_find 1 = .ok (.istore_n 2, 1) := by decide +kernel
theorem dX2_find_2 : decode cX2_find 2 = .ok (.iload_n 2, 1) := by decide +kernel
theorem dX2_find_3 : decode cX2_find 3 = .ok (.aload_n 0, 1) := by decide +kernel
theorem dX2_find_4 : decode cX2_find 4 = .ok (.getfield 33, 3) := by decide +kernel
theorem dX2_find_7 : decode cX2_find 7 = .ok (.if_icmp .ge 21, 3) := by decide +kernel
theorem dX2_find_10 : decode cX2_find 10 = .ok (.aload_n 0, 1) := by decide +kernel
theorem dX2_find_11 : decode cX2_find 11 = .ok (.getfield 18, 3) := by decide +kernel
theorem dX2_find_14 : decode cX2_find 14 = .ok (.iload_n 2, 1) := by decide +kernel
theorem dX2_find_15 : decode cX2_find 15 = .ok (.iaload, 1) := by decide +kernel
theorem dX2_find_16 : decode cX2_find 16 = .ok (.iload_n 1, 1) := by decide +kernel
theorem dX2_find_17 : decode cX2_find 17 = .ok (.if_icmp .ne 5, 3) := by decide +kernel
theorem dX2_find_20 : decode cX2_find 20 = .ok (.iload_n 2, 1) := by decide +kernel
theorem dX2_find_21 : decode cX2_find 21 = .ok (.ireturn, 1) := by decide +kernel
theorem dX2_find_22 : decode cX2_find 22 = .ok (.iinc 2 1, 3) := by decide +kernel
theorem dX2_find_25 : decode cX2_find 25 = .ok (.goto (-23), 3) := by decide +kernel
theorem dX2_find_28 : decode cX2_find 28 = .ok (.iconst (-1), 1) := by decide +kernel
theorem dX2_find_29 : decode cX2_find 29 = .ok (.ireturn, 1) := by decide +kernel
theorem cnf_y {h : Nat → Int} {k t t' : Int} {a b : Nat} (e : t = cnf h k a) (hb : b = a + 1) (hk : h a = k) (ht : t' = t + 1) : t' = cnf h k b := by
  subst hb
  show t' = cnf h k a + if h a = k then 1 else 0
  rw [if_pos hk, ← e]; exact ht
theorem cnf_n {h : Nat → Int} {k t t' : Int} {a b : Nat} (e : t = cnf h k a) (hb : b = a + 1) (hk : ¬ h a = k) (ht : t' = t) : t' = cnf h k b := by
  subst hb
  show t' = cnf h k a + if h a = k then 1 else 0
  rw [if_neg hk, ← e]; omega
theorem wsf_y {h : Nat → Int} {t t' : Int} {a b : Nat} (e : t = wsf h a) (hb : b = a + 1) (ht : t' = t + h a) : t' = wsf h b := by
  subst hb
  show t' = wsf h a + h a
  rw [← e]; exact ht
set_option maxHeartbeats 4000000 in
set_option maxRecDepth 100000 in
theorem c_X2_find (l : Launch) (D : va_G) (g : Nat → ClassId) (n : Nat) (p0 : Int32) (n_nodes : Int32) (n_kind : Nat) (n_pay : Nat) (n_name : Nat) (n_ways : Nat) (n_held : Nat) (n_targets : Nat) (n_weights : Nat) (n_fname : Nat → Int32) (h_n_nodes : 0 ≤ (n_nodes : Int32).toInt ∧ (n_nodes : Int32).toInt ≤ 12) : Met l yX2_find (.code yX2_find cX2_find 3 (some .int) :: wsL_law) ({ frames := 0, cells := 0, slots := 0, locals := 0 }) (va_Pc [.ref n, .int p0] (fun U => va_P D vwCl [(wO2 n n_nodes n_kind n_pay n_name n_ways n_held n_targets n_weights), (wI g n_name 0 12 n_fname)] U.heap ∧ va_K D vwCl (TY g) U)) (vp_Si (fun r => ((-1) ≤ (r : Int32).toInt ∧ (r : Int32).toInt ≤ 11) ∧ (FN (n_nodes : Int32).toInt (fun p => (n_fname p).toInt) (p0 : Int32).toInt (r : Int32).toInt))) 0 0 (fun _ => False) := by
  refine Met.ofW (cc := cX2_find) (maxL := 3) (ret := (some .int)) (by decide) rfl ?_
  intro p e s m args below meth c s₁ B hml hv
  obtain ⟨ha, hP, hK⟩ := hv
  have hx := B.exec
  have hb := B.bytes
  have hr := B.returns
  have hts0 := atoms_spec (ws := (.code yX2_find cX2_find 3 (some .int) :: wsL_law)) B.pre
  have hts : ∀ w ∈ wsL_law, w.before args s = true := fun w h => hts0 w (List.mem_cons_of_mem _ h)
  have hown : s.vm.findClass RX2 = some m.cls := findClass_of_methodNamed B.named
  have hlocks := B.notSynchronized
  have hP : va_P D vwCl [(wO2 n n_nodes n_kind n_pay n_name n_ways n_held n_targets n_weights), (wI g n_name 0 12 n_fname)] s.heap := hP
  refine W.eq (g2 := entryFrame m ([.ref n, .int p0] : List Value).toArray 3) (by rw [ha]) ?_
  have hl := lv_entry ([.ref n, .int p0]) (n := 3) (Nat.le_of_ble_eq_true rfl)
  rw [lg_entry_eq]
  generalize (lg_sl ([.ref n, .int p0]) ++ List.replicate (3 - (lg_sl ([.ref n, .int p0])).length) Slot.unset).toArray = ls at hl ⊢
  have hl : lv_has ls 3 [(0, .ref n), (1, .int p0)] := hl
  refine lv_iconst (v := 0) hx hb dX2_find_0 (by decide) ?_
  refine lv_istore_n (lv' := [(2, .int 0), (0, .ref n), (1, .int p0)]) hx hb dX2_find_1 rfl hl (by decide) rfl (fun ls hl => ?_)
  have lp_59399 : ∀ (n_59399 : Nat) (x_59398 : Int32) (ls : Array Slot), (0 ≤ (x_59398 : Int32).toInt ∧ (x_59398 : Int32).toInt ≤ 12) → (x_59398.toInt ≤ (n_nodes : Int32).toInt ∧ ∀ q : Nat, q < x_59398.toInt.toNat → (n_fname q).toInt ≠ (p0 : Int32).toInt) → (12 - x_59398.toInt < (n_59399 : Int)) → lv_has ls 3 [(2, .int x_59398), (0, .ref n), (1, .int p0)] → W p l e (headSpec (.code yX2_find cX2_find 3 (some .int) :: wsL_law) ({ frames := 0, cells := 0, slots := 0, locals := 0 })).room s m args below meth c s.heap [] 0 0 (MQ below (vp_Si (fun r => ((-1) ≤ (r : Int32).toInt ∧ (r : Int32).toInt ≤ 11) ∧ (FN (n_nodes : Int32).toInt (fun p => (n_fname p).toInt) (p0 : Int32).toInt (r : Int32).toInt))) args s 0 0 (fun _ => False)) (F0 m 2 ls []) := by
    intro n_59399
    induction n_59399 with
    | zero =>
      intro x_59398 ls h_x_59398 hr59399_0 hm_59399 hl
      exfalso; omega
    | succ n_59399 ih_59399 =>
      intro x_59398 ls h_x_59398 hr59399_0 hm_59399 hl
      refine lv_iload_n hx hb dX2_find_2 rfl (lv_at hl 0 rfl) ?_
      refine lv_aload_n hx hb dX2_find_3 rfl (lv_at hl 1 rfl) ?_
      refine va_get (D := D) (ci := 2) (v := .int n_nodes) (C := RX2) (T := TX2) (N := 8) hx hb hts inlX2 hown hK hP 0 rfl rfl 0 (by decide) (hts (Cond.fieldLink RX2 33 "ChanceRings$Net" "nodes" "I") qw_313) (fun _ h9 => h9) rfl dX2_find_4 ?_
      refine lv_icmp_ge (tgt := 28) hx hb dX2_find_7 (by decide) (fun c_59400 => ?_) (fun c_59400 => ?_)
      · skip
        have c_59400_i := Int32.le_iff_toInt_le.mp c_59400
        refine lv_iconst (v := (-1)) hx hb dX2_find_28 (by decide) ?_
        exact W.iret (v := (-1)) hx hb hr (fun t ht hW => ⟨(-1), rfl, ⟨(⟨by decide, by decide⟩ : (-1) ≤ ((-1) : Int32).toInt ∧ ((-1) : Int32).toInt ≤ 11), (Or.inr ⟨tk_m1, fun q h9 => hr59399_0.2 q (by omega)⟩)⟩, ht⟩) (fun _ h => nomatch h) dX2_find_29
      · skip
        have c_59400_i := Int32.lt_iff_toInt_lt.mp (Int32.not_le.mp c_59400)
        have h_59401 : 0 ≤ (x_59398 : Int32).toInt ∧ (x_59398 : Int32).toInt ≤ 11 := nr_lt_l h_x_59398 h_n_nodes c_59400_i (by decide) (by decide)
        have h_59402 : 1 ≤ (n_nodes : Int32).toInt ∧ (n_nodes : Int32).toInt ≤ 12 := nr_lt_r h_x_59398 h_n_nodes c_59400_i (by decide) (by decide)
        refine lv_aload_n hx hb dX2_find_10 rfl (lv_at hl 1 rfl) ?_
        refine va_get (D := D) (ci := 2) (v := .ref n_name) (C := RX2) (T := TX2) (N := 8) hx hb hts inlX2 hown hK hP 0 rfl rfl 3 (by decide) (hts (Cond.fieldLink RX2 18 "ChanceRings$Net" "name" "[I") qw_333) (fun _ h9 => h9) rfl dX2_find_11 ?_
        refine lv_iload_n hx hb dX2_find_14 rfl (lv_at hl 0 rfl) ?_
        refine va_iald hx hb hK hP 1 0 rfl rfl (tr_in h_59401 (by decide) (by decide)) dX2_find_15 ?_
        refine lv_topi (fun v_59403 v_59403_e => ?_)
        have g_v_59403 : v_59403 = n_fname (x_59398.toInt.toNat) := v_59403_e.trans (congrArg n_fname rfl)
        have gi_v_59403 := congrArg Int32.toInt g_v_59403
        refine lv_iload_n hx hb dX2_find_16 rfl (lv_at hl 2 rfl) ?_
        refine lv_icmp_ne (tgt := 22) hx hb dX2_find_17 (by decide) (fun c_59404 => ?_) (fun c_59404 => ?_)
        · skip
          have c_59404_i : ¬ (v_59403 : Int32).toInt = (p0 : Int32).toInt := (fun q => c_59404 (Int32.toInt_inj.mp q))
          obtain ⟨v_59405, v_59405_e⟩ : ∃ y : Int32, y = x_59398 + Int32.ofInt 1 := ⟨_, rfl⟩
          have h_v_59405 : 1 ≤ (v_59405 : Int32).toInt ∧ (v_59405 : Int32).toInt ≤ 12 := by rw [v_59405_e]; exact tr_add h_59401 (⟨by decide, by decide⟩ : 1 ≤ (Int32.ofInt 1 : Int32).toInt ∧ (Int32.ofInt 1 : Int32).toInt ≤ 1) (by decide) (by decide) (by decide) (by decide)
          have q_v_59405 : v_59405.toInt = x_59398.toInt + 1 := by rw [v_59405_e]; exact tr_addE h_59401 (⟨by decide, by decide⟩ : 1 ≤ (Int32.ofInt 1 : Int32).toInt ∧ (Int32.ofInt 1 : Int32).toInt ≤ 1) (by decide) (by decide)
          refine lv_iinc (v := v_59405) (lv' := [(2, .int v_59405), (0, .ref n), (1, .int p0)]) hx hb dX2_find_22 hl (k := 0) rfl v_59405_e.symm (by decide) rfl (fun ls hl => ?_)
          refine lv_goto (tgt := 2) hx hb dX2_find_25 (by decide) ?_
          exact ih_59399 v_59405 ls (tr_w h_v_59405 (by decide) (by decide)) ⟨by omega, all_next hr59399_0.2 (fun e9 => c_59404_i (gi_v_59403.trans e9)) (by omega)⟩ (by omega) (lv_sub hl [0, 1, 2] rfl)
        · skip
          have c_59404_i : (v_59403 : Int32).toInt = (p0 : Int32).toInt := congrArg Int32.toInt c_59404
          refine lv_iload_n hx hb dX2_find_20 rfl (lv_at hl 0 rfl) ?_
          exact W.iret (v := x_59398) hx hb hr (fun t ht hW => ⟨x_59398, rfl, ⟨(tr_w h_59401 (by decide) (by decide)), (Or.inl ⟨by omega, by omega, gi_v_59403.symm.trans c_59404_i, fun q h9 => hr59399_0.2 q (by omega)⟩)⟩, ht⟩) (fun _ h => nomatch h) dX2_find_21
  exact lp_59399 13 0 ls (⟨by decide, by decide⟩ : 0 ≤ (0 : Int32).toInt ∧ (0 : Int32).toInt ≤ 12) ⟨h_n_nodes.1, fun q h9 => absurd h9 (Nat.not_lt_zero q)⟩ (by decide) (lv_sub hl [0, 1, 2] rfl)
set_option maxHeartbeats 4000000 in
set_option maxRecDepth 100000 in
theorem c_X2_countOf (l : Launch) (D : va_G) (g : Nat → ClassId) (n : Nat) (p0 : Int32) (n_nodes : Int32) (n_kind : Nat) (n_pay : Nat) (n_name : Nat) (n_ways : Nat) (n_held : Nat) (n_targets : Nat) (n_weights : Nat) (n_fkind : Nat → Int32) (h_n_nodes : 0 ≤ (n_nodes : Int32).toInt ∧ (n_nodes : Int32).toInt ≤ 12) (h_n_fkind : ∀ j : Nat, 0 ≤ (n_fkind j).toInt ∧ (n_fkind j).toInt ≤ 3) : Met l yX2_countOf (.code yX2_countOf cX2_countOf 4 (some .int) :: wsL_law) ({ frames := 0, cells := 0, slots := 0, locals := 0 }) (va_Pc [.ref n, .int p0] (fun U => va_P D vwCl [(wO2 n n_nodes n_kind n_pay n_name n_ways n_held n_targets n_weights), (wI g n_kind 0 12 n_fkind)] U.heap ∧ va_K D vwCl (TY g) U)) (vp_Si (fun r => (0 ≤ (r : Int32).toInt ∧ (r : Int32).toInt ≤ 12) ∧ ((r : Int32).toInt = cnf (fun p => (n_fkind p).toInt) (p0 : Int32).toInt (n_nodes : Int32).toInt.toNat))) 0 0 (fun _ => False) := by
  refine Met.ofW (cc := cX2_countOf) (maxL := 4) (ret := (some .int)) (by decide) rfl ?_
  intro p e s m args below meth c s₁ B hml hv
  obtain ⟨ha, hP, hK⟩ := hv
  have hx := B.exec
  have hb := B.bytes
  have hr := B.returns
  have hts0 := atoms_spec (ws := (.code yX2_countOf cX2_countOf 4 (some .int) :: wsL_law)) B.pre
  have hts : ∀ w ∈ wsL_law, w.before args s = true := fun w h => hts0 w (List.mem_cons_of_mem _ h)
  have hown : s.vm.findClass RX2 = some m.cls := findClass_of_methodNamed B.named
  have hlocks := B.notSynchronized
  have hP : va_P D vwCl [(wO2 n n_nodes n_kind n_pay n_name n_ways n_held n_targets n_weights), (wI g n_kind 0 12 n_fkind)] s.heap := hP
  refine W.eq (g2 := entryFrame m ([.ref n, .int p0] : List Value).toArray 4) (by rw [ha]) ?_
  have hl := lv_entry ([.ref n, .int p0]) (n := 4) (Nat.le_of_ble_eq_true rfl)
  rw [lg_entry_eq]
  generalize (lg_sl ([.ref n, .int p0]) ++ List.replicate (4 - (lg_sl ([.ref n, .int p0])).length) Slot.unset).toArray = ls at hl ⊢
  have hl : lv_has ls 4 [(0, .ref n), (1, .int p0)] := hl
  refine lv_iconst (v := 0) hx hb dX2_countOf_0 (by decide) ?_
  refine lv_istore_n (lv' := [(2, .int 0), (0, .ref n), (1, .int p0)]) hx hb dX2_countOf_1 rfl hl (by decide) rfl (fun ls hl => ?_)
  refine lv_iconst (v := 0) hx hb dX2_countOf_2 (by decide) ?_
  refine lv_istore_n (lv' := [(3, .int 0), (2, .int 0), (0, .ref n), (1, .int p0)]) hx hb dX2_countOf_3 rfl hl (by decide) rfl (fun ls hl => ?_)
  have lp_59418 : ∀ (n_59418 : Nat) (x_59416 : Int32) (x_59417 : Int32) (ls : Array Slot), (0 ≤ (x_59416 : Int32).toInt ∧ (x_59416 : Int32).toInt ≤ 12) → (0 ≤ (x_59417 : Int32).toInt ∧ (x_59417 : Int32).toInt ≤ 12) → (x_59416.toInt = cnf (fun p => (n_fkind p).toInt) (p0 : Int32).toInt x_59417.toInt.toNat ∧ x_59416.toInt ≤ x_59417.toInt ∧ x_59417.toInt ≤ (n_nodes : Int32).toInt) → (12 - x_59417.toInt < (n_59418 : Int)) → lv_has ls 4 [(3, .int x_59417), (2, .int x_59416), (0, .ref n), (1, .int p0)] → W p l e (headSpec (.code yX2_countOf cX2_countOf 4 (some .int) :: wsL_law) ({ frames := 0, cells := 0, slots := 0, locals := 0 })).room s m args below meth c s.heap [] 0 0 (MQ below (vp_Si (fun r => (0 ≤ (r : Int32).toInt ∧ (r : Int32).toInt ≤ 12) ∧ ((r : Int32).toInt = cnf (fun p => (n_fkind p).toInt) (p0 : Int32).toInt (n_nodes : Int32).toInt.toNat))) args s 0 0 (fun _ => False)) (F0 m 4 ls []) := by
    intro n_59418
    induction n_59418 with
    | zero =>
      intro x_59416 x_59417 ls h_x_59416 h_x_59417 hr59418_0 hm_59418 hl
      exfalso; omega
    | succ n_59418 ih_59418 =>
      intro x_59416 x_59417 ls h_x_59416 h_x_59417 hr59418_0 hm_59418 hl
      refine lv_iload_n hx hb dX2_countOf_4 rfl (lv_at hl 0 rfl) ?_
      refine lv_aload_n hx hb dX2_countOf_5 rfl (lv_at hl 2 rfl) ?_
      refine va_get (D := D) (ci := 2) (v := .int n_nodes) (C := RX2) (T := TX2) (N := 8) hx hb hts inlX2 hown hK hP 0 rfl rfl 0 (by decide) (hts (Cond.fieldLink RX2 33 "ChanceRings$Net" "nodes" "I") qw_313) (fun _ h9 => h9) rfl dX2_countOf_6 ?_
      refine lv_icmp_ge (tgt := 31) hx hb dX2_countOf_9 (by decide) (fun c_59419 => ?_) (fun c_59419 => ?_)
      · skip
        have c_59419_i := Int32.le_iff_toInt_le.mp c_59419
        refine lv_iload_n hx hb dX2_countOf_31 rfl (lv_at hl 1 rfl) ?_
        exact W.iret (v := x_59416) hx hb hr (fun t ht hW => ⟨x_59416, rfl, ⟨(tr_w h_x_59416 (by decide) (by decide)), (hr59418_0.1.trans (congrArg (cnf (fun p => (n_fkind p).toInt) (p0 : Int32).toInt) (by omega)))⟩, ht⟩) (fun _ h => nomatch h) dX2_countOf_32
      · skip
        have c_59419_i := Int32.lt_iff_toInt_lt.mp (Int32.not_le.mp c_59419)
        have h_59420 : 0 ≤ (x_59417 : Int32).toInt ∧ (x_59417 : Int32).toInt ≤ 11 := nr_lt_l h_x_59417 h_n_nodes c_59419_i (by decide) (by decide)
        have h_59421 : 1 ≤ (n_nodes : Int32).toInt ∧ (n_nodes : Int32).toInt ≤ 12 := nr_lt_r h_x_59417 h_n_nodes c_59419_i (by decide) (by decide)
        refine lv_aload_n hx hb dX2_countOf_12 rfl (lv_at hl 2 rfl) ?_
        refine va_get (D := D) (ci := 2) (v := .ref n_kind) (C := RX2) (T := TX2) (N := 8) hx hb hts inlX2 hown hK hP 0 rfl rfl 1 (by decide) (hts (Cond.fieldLink RX2 9 "ChanceRings$Net" "kind" "[I") qw_316) (fun _ h9 => h9) rfl dX2_countOf_13 ?_
        refine lv_iload_n hx hb dX2_countOf_16 rfl (lv_at hl 0 rfl) ?_
        refine va_iald hx hb hK hP 1 0 rfl rfl (tr_in h_59420 (by decide) (by decide)) dX2_countOf_17 ?_
        refine lv_topi (fun v_59422 v_59422_e => ?_)
        have h_v_59422 : 0 ≤ (v_59422 : Int32).toInt ∧ (v_59422 : Int32).toInt ≤ 3 := by rw [v_59422_e]; exact h_n_fkind _
        have g_v_59422 : v_59422 = n_fkind (x_59417.toInt.toNat) := v_59422_e.trans (congrArg n_fkind rfl)
        have gi_v_59422 := congrArg Int32.toInt g_v_59422
        refine lv_iload_n hx hb dX2_countOf_18 rfl (lv_at hl 3 rfl) ?_
        refine lv_icmp_ne (tgt := 25) hx hb dX2_countOf_19 (by decide) (fun c_59423 => ?_) (fun c_59423 => ?_)
        · skip
          have c_59423_i : ¬ (v_59422 : Int32).toInt = (p0 : Int32).toInt := (fun q => c_59423 (Int32.toInt_inj.mp q))
          obtain ⟨v_59424, v_59424_e⟩ : ∃ y : Int32, y = x_59417 + Int32.ofInt 1 := ⟨_, rfl⟩
          have h_v_59424 : 1 ≤ (v_59424 : Int32).toInt ∧ (v_59424 : Int32).toInt ≤ 12 := by rw [v_59424_e]; exact tr_add h_59420 (⟨by decide, by decide⟩ : 1 ≤ (Int32.ofInt 1 : Int32).toInt ∧ (Int32.ofInt 1 : Int32).toInt ≤ 1) (by decide) (by decide) (by decide) (by decide)
          have q_v_59424 : v_59424.toInt = x_59417.toInt + 1 := by rw [v_59424_e]; exact tr_addE h_59420 (⟨by decide, by decide⟩ : 1 ≤ (Int32.ofInt 1 : Int32).toInt ∧ (Int32.ofInt 1 : Int32).toInt ≤ 1) (by decide) (by decide)
          refine lv_iinc (v := v_59424) (lv' := [(3, .int v_59424), (2, .int x_59416), (0, .ref n), (1, .int p0)]) hx hb dX2_countOf_25 hl (k := 0) rfl v_59424_e.symm (by decide) rfl (fun ls hl => ?_)
          refine lv_goto (tgt := 4) hx hb dX2_countOf_28 (by decide) ?_
          exact ih_59418 x_59416 v_59424 ls (tr_w h_x_59416 (by decide) (by decide)) (tr_w h_v_59424 (by decide) (by decide)) ⟨cnf_n hr59418_0.1 (by omega) (fun e9 => c_59423_i (gi_v_59422.trans e9)) (by omega), by omega, by omega⟩ (by omega) (lv_sub hl [0, 1, 2, 3] rfl)
        · skip
          have c_59423_i : (v_59422 : Int32).toInt = (p0 : Int32).toInt := congrArg Int32.toInt c_59423
          obtain ⟨v_59425, v_59425_e⟩ : ∃ y : Int32, y = x_59416 + Int32.ofInt 1 := ⟨_, rfl⟩
          have h_v_59425 : 1 ≤ (v_59425 : Int32).toInt ∧ (v_59425 : Int32).toInt ≤ 13 := by rw [v_59425_e]; exact tr_add h_x_59416 (⟨by decide, by decide⟩ : 1 ≤ (Int32.ofInt 1 : Int32).toInt ∧ (Int32.ofInt 1 : Int32).toInt ≤ 1) (by decide) (by decide) (by decide) (by decide)
          have q_v_59425 : v_59425.toInt = x_59416.toInt + 1 := by rw [v_59425_e]; exact tr_addE h_x_59416 (⟨by decide, by decide⟩ : 1 ≤ (Int32.ofInt 1 : Int32).toInt ∧ (Int32.ofInt 1 : Int32).toInt ≤ 1) (by decide) (by decide)
          refine lv_iinc (v := v_59425) (lv' := [(2, .int v_59425), (3, .int x_59417), (0, .ref n), (1, .int p0)]) hx hb dX2_countOf_22 hl (k := 1) rfl v_59425_e.symm (by decide) rfl (fun ls hl => ?_)
          obtain ⟨v_59426, v_59426_e⟩ : ∃ y : Int32, y = x_59417 + Int32.ofInt 1 := ⟨_, rfl⟩
          have h_v_59426 : 1 ≤ (v_59426 : Int32).toInt ∧ (v_59426 : Int32).toInt ≤ 12 := by rw [v_59426_e]; exact tr_add h_59420 (⟨by decide, by decide⟩ : 1 ≤ (Int32.ofInt 1 : Int32).toInt ∧ (Int32.ofInt 1 : Int32).toInt ≤ 1) (by decide) (by decide) (by decide) (by decide)
          have q_v_59426 : v_59426.toInt = x_59417.toInt + 1 := by rw [v_59426_e]; exact tr_addE h_59420 (⟨by decide, by decide⟩ : 1 ≤ (Int32.ofInt 1 : Int32).toInt ∧ (Int32.ofInt 1 : Int32).toInt ≤ 1) (by decide) (by decide)
          refine lv_iinc (v := v_59426) (lv' := [(3, .int v_59426), (2, .int v_59425), (0, .ref n), (1, .int p0)]) hx hb dX2_countOf_25 hl (k := 1) rfl v_59426_e.symm (by decide) rfl (fun ls hl => ?_)
          refine lv_goto (tgt := 4) hx hb dX2_countOf_28 (by decide) ?_
          exact ih_59418 v_59425 v_59426 ls (by omega) (tr_w h_v_59426 (by decide) (by decide)) ⟨cnf_y hr59418_0.1 (by omega) (gi_v_59422.symm.trans c_59423_i) (by omega), by omega, by omega⟩ (by omega) (lv_sub hl [0, 1, 2, 3] rfl)
  exact lp_59418 13 0 0 ls (⟨by decide, by decide⟩ : 0 ≤ (0 : Int32).toInt ∧ (0 : Int32).toInt ≤ 12) (⟨by decide, by decide⟩ : 0 ≤ (0 : Int32).toInt ∧ (0 : Int32).toInt ≤ 12) ⟨rfl, by have z_0 := tk_0; omega, by have z_0 := tk_0; omega⟩ (by decide) (lv_sub hl [0, 1, 2, 3] rfl)
set_option maxHeartbeats 4000000 in
set_option maxRecDepth 100000 in
theorem c_X2_togetherR (l : Launch) (D : va_G) (g : Nat → ClassId) (n : Nat) (p0 : Int32) (n_nodes : Int32) (n_kind : Nat) (n_pay : Nat) (n_name : Nat) (n_ways : Nat) (n_held : Nat) (n_targets : Nat) (n_weights : Nat) (n_fkind : Nat → Int32) (n_fways : Nat → Int32) (n_fweights : Nat → Int32) (h_p0 : 0 ≤ (p0 : Int32).toInt ∧ (p0 : Int32).toInt ≤ 11) (h_n_nodes : 0 ≤ (n_nodes : Int32).toInt ∧ (n_nodes : Int32).toInt ≤ 12) (h_n_fkind : ∀ j : Nat, 0 ≤ (n_fkind j).toInt ∧ (n_fkind j).toInt ≤ 3) (h_n_fways : ∀ j : Nat, 0 ≤ (n_fways j).toInt ∧ (n_fways j).toInt ≤ 3) (hwr : ∀ i : Nat, (i : Int) < (n_fways (p0 : Int32).toInt.toNat).toInt → 0 ≤ (n_fweights (3 * (p0 : Int32).toInt.toNat + i)).toInt ∧ (n_fweights (3 * (p0 : Int32).toInt.toNat + i)).toInt ≤ 3) : Met l yX2_together (.code yX2_together cX2_together 4 (some .int) :: wsL_law) ({ frames := 0, cells := 0, slots := 0, locals := 0 }) (va_Pc [.ref n, .int p0] (fun U => va_P D vwCl [(wO2 n n_nodes n_kind n_pay n_name n_ways n_held n_targets n_weights), (wI g n_kind 0 12 n_fkind), (wI g n_ways 0 12 n_fways), (wI g n_weights 0 36 n_fweights)] U.heap ∧ va_K D vwCl (TY g) U)) (vp_Si (fun r => (0 ≤ (r : Int32).toInt ∧ (r : Int32).toInt ≤ 9) ∧ (Hide ((n_fkind (p0 : Int32).toInt.toNat).toInt = 3 → (r : Int32).toInt = wsf (fun i => (n_fweights (3 * (p0 : Int32).toInt.toNat + i)).toInt) (n_fways (p0 : Int32).toInt.toNat).toInt.toNat)))) 0 0 (fun _ => False) := by
  refine Met.ofW (cc := cX2_together) (maxL := 4) (ret := (some .int)) (by decide) rfl ?_
  intro p e s m args below meth c s₁ B hml hv
  obtain ⟨ha, hP, hK⟩ := hv
  have hx := B.exec
  have hb := B.bytes
  have hr := B.returns
  have hts0 := atoms_spec (ws := (.code yX2_together cX2_together 4 (some .int) :: wsL_law)) B.pre
  have hts : ∀ w ∈ wsL_law, w.before args s = true := fun w h => hts0 w (List.mem_cons_of_mem _ h)
  have hown : s.vm.findClass RX2 = some m.cls := findClass_of_methodNamed B.named
  have hlocks := B.notSynchronized
  have hP : va_P D vwCl [(wO2 n n_nodes n_kind n_pay n_name n_ways n_held n_targets n_weights), (wI g n_kind 0 12 n_fkind), (wI g n_ways 0 12 n_fways), (wI g n_weights 0 36 n_fweights)] s.heap := hP
  refine W.eq (g2 := entryFrame m ([.ref n, .int p0] : List Value).toArray 4) (by rw [ha]) ?_
  have hl := lv_entry ([.ref n, .int p0]) (n := 4) (Nat.le_of_ble_eq_true rfl)
  rw [lg_entry_eq]
  generalize (lg_sl ([.ref n, .int p0]) ++ List.replicate (4 - (lg_sl ([.ref n, .int p0])).length) Slot.unset).toArray = ls at hl ⊢
  have hl : lv_has ls 4 [(0, .ref n), (1, .int p0)] := hl
  refine lv_aload_n hx hb dX2_together_0 rfl (lv_at hl 0 rfl) ?_
  refine va_get (D := D) (ci := 2) (v := .ref n_kind) (C := RX2) (T := TX2) (N := 8) hx hb hts inlX2 hown hK hP 0 rfl rfl 1 (by decide) (hts (Cond.fieldLink RX2 9 "ChanceRings$Net" "kind" "[I") qw_316) (fun _ h9 => h9) rfl dX2_together_1 ?_
  refine lv_iload_n hx hb dX2_together_4 rfl (lv_at hl 1 rfl) ?_
  refine va_iald hx hb hK hP 1 0 rfl rfl (tr_in h_p0 (by decide) (by decide)) dX2_together_5 ?_
  refine lv_topi (fun v_59427 v_59427_e => ?_)
  have h_v_59427 : 0 ≤ (v_59427 : Int32).toInt ∧ (v_59427 : Int32).toInt ≤ 3 := by rw [v_59427_e]; exact h_n_fkind _
  have g_v_59427 : v_59427 = n_fkind (p0.toInt.toNat) := v_59427_e.trans (congrArg n_fkind rfl)
  have gi_v_59427 := congrArg Int32.toInt g_v_59427
  refine lv_iconst (v := 3) hx hb dX2_together_6 (by decide) ?_
  refine lv_icmp_eq (tgt := 12) hx hb dX2_together_7 (by decide) (fun c_59428 => ?_) (fun c_59428 => ?_)
  · skip
    have kk_3 := tk_3
    have c_59428_i : (v_59427 : Int32).toInt = (3 : Int32).toInt := congrArg Int32.toInt c_59428
    have h_59429 : 3 ≤ (v_59427 : Int32).toInt ∧ (v_59427 : Int32).toInt ≤ 3 := nr_eq_l h_v_59427 (⟨by decide, by decide⟩ : 3 ≤ (3 : Int32).toInt ∧ (3 : Int32).toInt ≤ 3) c_59428_i (by decide) (by decide)
    refine lv_iconst (v := 0) hx hb dX2_together_12 (by decide) ?_
    refine lv_istore_n (lv' := [(2, .int 0), (0, .ref n), (1, .int p0)]) hx hb dX2_together_13 rfl hl (by decide) rfl (fun ls hl => ?_)
    refine lv_iconst (v := 0) hx hb dX2_together_14 (by decide) ?_
    refine lv_istore_n (lv' := [(3, .int 0), (2, .int 0), (0, .ref n), (1, .int p0)]) hx hb dX2_together_15 rfl hl (by decide) rfl (fun ls hl => ?_)
    have lp_59445 : ∀ (n_59445 : Nat) (x_59443 : Int32) (x_59444 : Int32) (ls : Array Slot), (0 ≤ (x_59443 : Int32).toInt ∧ (x_59443 : Int32).toInt ≤ 9) → (0 ≤ (x_59444 : Int32).toInt ∧ (x_59444 : Int32).toInt ≤ 3) → (x_59443.toInt = wsf (fun i => (n_fweights (3 * (p0 : Int32).toInt.toNat + i)).toInt) x_59444.toInt.toNat ∧ x_59443.toInt ≤ 3 * x_59444.toInt ∧ x_59444.toInt ≤ (n_fways (p0 : Int32).toInt.toNat).toInt) → (3 - x_59444.toInt < (n_59445 : Int)) → lv_has ls 4 [(3, .int x_59444), (2, .int x_59443), (0, .ref n), (1, .int p0)] → W p l e (headSpec (.code yX2_together cX2_together 4 (some .int) :: wsL_law) ({ frames := 0, cells := 0, slots := 0, locals := 0 })).room s m args below meth c s.heap [] 0 0 (MQ below (vp_Si (fun r => (0 ≤ (r : Int32).toInt ∧ (r : Int32).toInt ≤ 9) ∧ (Hide ((n_fkind (p0 : Int32).toInt.toNat).toInt = 3 → (r : Int32).toInt = wsf (fun i => (n_fweights (3 * (p0 : Int32).toInt.toNat + i)).toInt) (n_fways (p0 : Int32).toInt.toNat).toInt.toNat)))) args s 0 0 (fun _ => False)) (F0 m 16 ls []) := by
      intro n_59445
      induction n_59445 with
      | zero =>
        intro x_59443 x_59444 ls h_x_59443 h_x_59444 hr59445_0 hm_59445 hl
        exfalso; omega
      | succ n_59445 ih_59445 =>
        intro x_59443 x_59444 ls h_x_59443 h_x_59444 hr59445_0 hm_59445 hl
        refine lv_iload_n hx hb dX2_together_16 rfl (lv_at hl 0 rfl) ?_
        refine lv_aload_n hx hb dX2_together_17 rfl (lv_at hl 2 rfl) ?_
        refine va_get (D := D) (ci := 2) (v := .ref n_ways) (C := RX2) (T := TX2) (N := 8) hx hb hts inlX2 hown hK hP 0 rfl rfl 4 (by decide) (hts (Cond.fieldLink RX2 21 "ChanceRings$Net" "ways" "[I") qw_318) (fun _ h9 => h9) rfl dX2_together_18 ?_
        refine lv_iload_n hx hb dX2_together_21 rfl (lv_at hl 3 rfl) ?_
        refine va_iald hx hb hK hP 2 0 rfl rfl (tr_in h_p0 (by decide) (by decide)) dX2_together_22 ?_
        refine lv_topi (fun v_59446 v_59446_e => ?_)
        have h_v_59446 : 0 ≤ (v_59446 : Int32).toInt ∧ (v_59446 : Int32).toInt ≤ 3 := by rw [v_59446_e]; exact h_n_fways _
        have g_v_59446 : v_59446 = n_fways (p0.toInt.toNat) := v_59446_e.trans (congrArg n_fways rfl)
        have gi_v_59446 := congrArg Int32.toInt g_v_59446
        refine lv_icmp_ge (tgt := 45) hx hb dX2_together_23 (by decide) (fun c_59447 => ?_) (fun c_59447 => ?_)
        · skip
          have c_59447_i := Int32.le_iff_toInt_le.mp c_59447
          refine lv_iload_n hx hb dX2_together_45 rfl (lv_at hl 1 rfl) ?_
          exact W.iret (v := x_59443) hx hb hr (fun t ht hW => ⟨x_59443, rfl, ⟨(tr_w h_x_59443 (by decide) (by decide)), (fun _ => hr59445_0.1.trans (congrArg (wsf (fun i => (n_fweights (3 * (p0 : Int32).toInt.toNat + i)).toInt)) (by have q8 := gi_v_59446; omega)))⟩, ht⟩) (fun _ h => nomatch h) dX2_together_46
        · skip
          have c_59447_i := Int32.lt_iff_toInt_lt.mp (Int32.not_le.mp c_59447)
          have h_59448 : 0 ≤ (x_59444 : Int32).toInt ∧ (x_59444 : Int32).toInt ≤ 2 := nr_lt_l h_x_59444 h_v_59446 c_59447_i (by decide) (by decide)
          have h_59449 : 1 ≤ (v_59446 : Int32).toInt ∧ (v_59446 : Int32).toInt ≤ 3 := nr_lt_r h_x_59444 h_v_59446 c_59447_i (by decide) (by decide)
          refine lv_iload_n hx hb dX2_together_26 rfl (lv_at hl 1 rfl) ?_
          refine lv_aload_n hx hb dX2_together_27 rfl (lv_at hl 2 rfl) ?_
          refine va_get (D := D) (ci := 2) (v := .ref n_weights) (C := RX2) (T := TX2) (N := 8) hx hb hts inlX2 hown hK hP 0 rfl rfl 7 (by decide) (hts (Cond.fieldLink RX2 30 "ChanceRings$Net" "weights" "[I") qw_332) (fun _ h9 => h9) rfl dX2_together_28 ?_
          refine lv_iload_n hx hb dX2_together_31 rfl (lv_at hl 3 rfl) ?_
          refine lv_iconst (v := 3) hx hb dX2_together_32 (by decide) ?_
          refine lv_imul hx hb dX2_together_33 ?_
          refine lv_topi (fun v_59450 v_59450_e => ?_)
          have h_v_59450 : 0 ≤ (v_59450 : Int32).toInt ∧ (v_59450 : Int32).toInt ≤ 33 := by rw [v_59450_e]; exact tr_mul h_p0 (⟨by decide, by decide⟩ : 3 ≤ (3 : Int32).toInt ∧ (3 : Int32).toInt ≤ 3) (by decide) (by decide) (by decide) (by decide)
          have q_v_59450 : v_59450.toInt = p0.toInt * 3 := by rw [v_59450_e]; exact (tr_mulX h_p0 (⟨by decide, by decide⟩ : 3 ≤ (3 : Int32).toInt ∧ (3 : Int32).toInt ≤ 3) (by decide) (by decide)).trans (by rw [tk_3])
          refine lv_iload_n hx hb dX2_together_34 rfl (lv_at hl 0 rfl) ?_
          refine lv_iadd hx hb dX2_together_35 ?_
          refine lv_topi (fun v_59451 v_59451_e => ?_)
          have h_v_59451 : 0 ≤ (v_59451 : Int32).toInt ∧ (v_59451 : Int32).toInt ≤ 35 := by rw [v_59451_e]; exact tr_add h_v_59450 h_59448 (by decide) (by decide) (by decide) (by decide)
          have q_v_59451 : v_59451.toInt = v_59450.toInt + x_59444.toInt := by rw [v_59451_e]; exact tr_addX h_v_59450 h_59448 (by decide) (by decide)
          refine va_iald hx hb hK hP 3 0 rfl rfl (tr_in h_v_59451 (by decide) (by decide)) dX2_together_36 ?_
          refine lv_topi (fun v_59452 v_59452_e => ?_)
          have g_v_59452 : v_59452 = n_fweights (p0.toInt.toNat * 3 + x_59444.toInt.toNat) := v_59452_e.trans (congrArg n_fweights (by show Int.toNat _ = _; omega))
          have gi_v_59452 := congrArg Int32.toInt g_v_59452
          have tw_9 : v_59452.toInt = (n_fweights (3 * (p0 : Int32).toInt.toNat + x_59444.toInt.toNat)).toInt := gi_v_59452.trans (congrArg (fun k9 => (n_fweights k9).toInt) (by omega))
          have h_59453 : 0 ≤ (v_59452 : Int32).toInt ∧ (v_59452 : Int32).toInt ≤ 3 := by have q9 := hwr x_59444.toInt.toNat (by have q8 := gi_v_59446; omega); omega
          refine lv_iadd hx hb dX2_together_37 ?_
          refine lv_topi (fun v_59454 v_59454_e => ?_)
          have h_v_59454 : 0 ≤ (v_59454 : Int32).toInt ∧ (v_59454 : Int32).toInt ≤ 12 := by rw [v_59454_e]; exact tr_add h_x_59443 h_59453 (by decide) (by decide) (by decide) (by decide)
          have q_v_59454 : v_59454.toInt = x_59443.toInt + v_59452.toInt := by rw [v_59454_e]; exact tr_addX h_x_59443 h_59453 (by decide) (by decide)
          refine lv_istore_n (lv' := [(2, .int v_59454), (3, .int x_59444), (0, .ref n), (1, .int p0)]) hx hb dX2_together_38 rfl hl (by decide) rfl (fun ls hl => ?_)
          obtain ⟨v_59455, v_59455_e⟩ : ∃ y : Int32, y = x_59444 + Int32.ofInt 1 := ⟨_, rfl⟩
          have h_v_59455 : 1 ≤ (v_59455 : Int32).toInt ∧ (v_59455 : Int32).toInt ≤ 3 := by rw [v_59455_e]; exact tr_add h_59448 (⟨by decide, by decide⟩ : 1 ≤ (Int32.ofInt 1 : Int32).toInt ∧ (Int32.ofInt 1 : Int32).toInt ≤ 1) (by decide) (by decide) (by decide) (by decide)
          have q_v_59455 : v_59455.toInt = x_59444.toInt + 1 := by rw [v_59455_e]; exact tr_addE h_59448 (⟨by decide, by decide⟩ : 1 ≤ (Int32.ofInt 1 : Int32).toInt ∧ (Int32.ofInt 1 : Int32).toInt ≤ 1) (by decide) (by decide)
          refine lv_iinc (v := v_59455) (lv' := [(3, .int v_59455), (2, .int v_59454), (0, .ref n), (1, .int p0)]) hx hb dX2_together_39 hl (k := 1) rfl v_59455_e.symm (by decide) rfl (fun ls hl => ?_)
          refine lv_goto (tgt := 16) hx hb dX2_together_42 (by decide) ?_
          exact ih_59445 v_59454 v_59455 ls (by omega) (tr_w h_v_59455 (by decide) (by decide)) ⟨wsf_y hr59445_0.1 (by omega) (by have q8 := tw_9; omega), by omega, by have q8 := gi_v_59446; omega⟩ (by omega) (lv_sub hl [0, 1, 2, 3] rfl)
    exact lp_59445 4 0 0 ls (⟨by decide, by decide⟩ : 0 ≤ (0 : Int32).toInt ∧ (0 : Int32).toInt ≤ 9) (⟨by decide, by decide⟩ : 0 ≤ (0 : Int32).toInt ∧ (0 : Int32).toInt ≤ 3) ⟨rfl, by have z_0 := tk_0; omega, by have z_0 := tk_0; have q9 := h_n_fways (p0 : Int32).toInt.toNat; omega⟩ (by decide) (lv_sub hl [0, 1, 2, 3] rfl)
  · skip
    have kk_3 := tk_3
    have c_59428_i : ¬ (v_59427 : Int32).toInt = (3 : Int32).toInt := (fun q => c_59428 (Int32.toInt_inj.mp q))
    have h_59430 : 0 ≤ (v_59427 : Int32).toInt ∧ (v_59427 : Int32).toInt ≤ 2 := nr_ne_l h_v_59427 (⟨by decide, by decide⟩ : 3 ≤ (3 : Int32).toInt ∧ (3 : Int32).toInt ≤ 3) c_59428_i (by decide) (by decide)
    refine lv_iconst (v := 1) hx hb dX2_together_10 (by decide) ?_
    exact W.iret (v := 1) hx hb hr (fun t ht hW => ⟨1, rfl, ⟨(⟨by decide, by decide⟩ : 0 ≤ (1 : Int32).toInt ∧ (1 : Int32).toInt ≤ 9), (fun h9 => absurd h9 (by have z3 := tk_3; (first | (clear h_p0 h_n_nodes h_v_59427 g_v_59427 gi_v_59427 c_59428_i h_59430; omega) | omega)))⟩, ht⟩) (fun _ h => nomatch h) dX2_together_11
set_option maxHeartbeats 4000000 in
set_option maxRecDepth 100000 in
theorem c_X2_addNode (l : Launch) (D : va_G) (g : Nat → ClassId) (sz : Nat) (n : Nat) (p0 : Int32) (p1 : Int32) (p2 : Int32) (n_nodes : Int32) (n_kind : Nat) (n_pay : Nat) (n_name : Nat) (n_ways : Nat) (n_held : Nat) (n_targets : Nat) (n_weights : Nat) (n_fkind : Nat → Int32) (n_fpay : Nat → Int32) (n_fname : Nat → Int32) (n_fways : Nat → Int32) (n_fheld : Nat → Int32) (h_p0 : 0 ≤ (p0 : Int32).toInt ∧ (p0 : Int32).toInt ≤ 3) (h_n_nodes : 0 ≤ (n_nodes : Int32).toInt ∧ (n_nodes : Int32).toInt ≤ 11) (h_n_fkind : ∀ j : Nat, 0 ≤ (n_fkind j).toInt ∧ (n_fkind j).toInt ≤ 3) (h_n_fways : ∀ j : Nat, 0 ≤ (n_fways j).toInt ∧ (n_fways j).toInt ≤ 3) (h_n_fheld : ∀ j : Nat, (-1) ≤ (n_fheld j).toInt ∧ (n_fheld j).toInt ≤ 2) : Met l yX2_addNode (.code yX2_addNode cX2_addNode 4 none :: wsL_law) ({ frames := 0, cells := 0, slots := 0, locals := 0 }) (va_Pc [.ref n, .int p0, .int p1, .int p2] (fun U => U.heap.size = sz ∧ va_P D vwCl [(wO2 n n_nodes n_kind n_pay n_name n_ways n_held n_targets n_weights), (wI g n_kind 0 12 n_fkind), (wI g n_pay 0 12 n_fpay), (wI g n_name 0 12 n_fname), (wI g n_ways 0 12 n_fways), (wI g n_held 0 12 n_fheld)] U.heap ∧ va_K D vwCl (TY g) U ∧ va_D (fun _ => True) [(wO2 n n_nodes n_kind n_pay n_name n_ways n_held n_targets n_weights), (wI g n_kind 0 12 n_fkind), (wI g n_pay 0 12 n_fpay), (wI g n_name 0 12 n_fname), (wI g n_ways 0 12 n_fways), (wI g n_held 0 12 n_fheld)])) (va_Qv (fun (_ : Unit) => True) (fun _ t => ∃ on : Int32, ∃ n_gkind : Nat → Int32, ∃ n_gpay : Nat → Int32, ∃ n_gname : Nat → Int32, ∃ n_gways : Nat → Int32, ∃ n_gheld : Nat → Int32, (1 ≤ (on : Int32).toInt ∧ (on : Int32).toInt ≤ 12) ∧ (∀ j : Nat, 0 ≤ (n_gkind j).toInt ∧ (n_gkind j).toInt ≤ 3) ∧ (∀ j : Nat, 0 ≤ (n_gways j).toInt ∧ (n_gways j).toInt ≤ 3) ∧ (∀ j : Nat, (-1) ≤ (n_gheld j).toInt ∧ (n_gheld j).toInt ≤ 2) ∧ ((on : Int32).toInt = (n_nodes : Int32).toInt + 1) ∧ (n_gkind = upd n_fkind (n_nodes : Int32).toNatClampNeg p0) ∧ (n_gname = upd n_fname (n_nodes : Int32).toNatClampNeg p1) ∧ (n_gpay = upd n_fpay (n_nodes : Int32).toNatClampNeg p2) ∧ (n_gways = upd n_fways (n_nodes : Int32).toNatClampNeg 0) ∧ (n_gheld = upd n_fheld (n_nodes : Int32).toNatClampNeg (-1)) ∧ va_P D vwCl [(wO2 n on n_kind n_pay n_name n_ways n_held n_targets n_weights), (wI g n_kind 0 12 n_gkind), (wI g n_pay 0 12 n_gpay), (wI g n_name 0 12 n_gname), (wI g n_ways 0 12 n_gways), (wI g n_held 0 12 n_gheld)] t.heap ∧ va_D (va_A [(wO2 n n_nodes n_kind n_pay n_name n_ways n_held n_targets n_weights), (wI g n_kind 0 12 n_fkind), (wI g n_pay 0 12 n_fpay), (wI g n_name 0 12 n_fname), (wI g n_ways 0 12 n_fways), (wI g n_held 0 12 n_fheld)] sz) [(wO2 n on n_kind n_pay n_name n_ways n_held n_targets n_weights), (wI g n_kind 0 12 n_gkind), (wI g n_pay 0 12 n_gpay), (wI g n_name 0 12 n_gname), (wI g n_ways 0 12 n_gways), (wI g n_held 0 12 n_gheld)]) (va_A [(wO2 n n_nodes n_kind n_pay n_name n_ways n_held n_targets n_weights), (wI g n_kind 0 12 n_fkind), (wI g n_pay 0 12 n_fpay), (wI g n_name 0 12 n_fname), (wI g n_ways 0 12 n_fways), (wI g n_held 0 12 n_fheld)] sz)) 0 0 (va_A [(wO2 n n_nodes n_kind n_pay n_name n_ways n_held n_targets n_weights), (wI g n_kind 0 12 n_fkind), (wI g n_pay 0 12 n_fpay), (wI g n_name 0 12 n_fname), (wI g n_ways 0 12 n_fways), (wI g n_held 0 12 n_fheld)] sz) := by
  refine Met.ofW (cc := cX2_addNode) (maxL := 4) (ret := none) (by decide) rfl ?_
  intro p e s m args below meth c s₁ B hml hv
  obtain ⟨ha, hsz, hP, hK, hD0⟩ := hv
  have hx := B.exec
  have hb := B.bytes
  have hr := B.returns
  have hts0 := atoms_spec (ws := (.code yX2_addNode cX2_addNode 4 none :: wsL_law)) B.pre
  have hts : ∀ w ∈ wsL_law, w.before args s = true := fun w h => hts0 w (List.mem_cons_of_mem _ h)
  have hown : s.vm.findClass RX2 = some m.cls := findClass_of_methodNamed B.named
  have hlocks := B.notSynchronized
  subst hsz
  have hD := hD0.self (sz := s.heap.size)
  generalize hAe : va_A [(wO2 n n_nodes n_kind n_pay n_name n_ways n_held n_targets n_weights), (wI g n_kind 0 12 n_fkind), (wI g n_pay 0 12 n_fpay), (wI g n_name 0 12 n_fname), (wI g n_ways 0 12 n_fways), (wI g n_held 0 12 n_fheld)] s.heap.size = A at hD ⊢
  have hA : ∀ q : Nat, s.heap.size ≤ q → A q := fun q h => by rw [← hAe]; exact Or.inr h
  have hS : va_S A s.heap s.heap [] := va_S.rf
  have hP : va_P D vwCl [(wO2 n n_nodes n_kind n_pay n_name n_ways n_held n_targets n_weights), (wI g n_kind 0 12 n_fkind), (wI g n_pay 0 12 n_fpay), (wI g n_name 0 12 n_fname), (wI g n_ways 0 12 n_fways), (wI g n_held 0 12 n_fheld)] s.heap := hP
  refine W.eq (g2 := entryFrame m ([.ref n, .int p0, .int p1, .int p2] : List Value).toArray 4) (by rw [ha]) ?_
  have hl := lv_entry ([.ref n, .int p0, .int p1, .int p2]) (n := 4) (Nat.le_of_ble_eq_true rfl)
  rw [lg_entry_eq]
  generalize (lg_sl ([.ref n, .int p0, .int p1, .int p2]) ++ List.replicate (4 - (lg_sl ([.ref n, .int p0, .int p1, .int p2])).length) Slot.unset).toArray = ls at hl ⊢
  have hl : lv_has ls 4 [(0, .ref n), (1, .int p0), (2, .int p1), (3, .int p2)] := hl
  refine lv_aload_n hx hb dX2_addNode_0 rfl (lv_at hl 0 rfl) ?_
  refine va_get (D := D) (ci := 2) (v := .int n_nodes) (C := RX2) (T := TX2) (N := 8) hx hb hts inlX2 hown hK hP 0 rfl rfl 0 (by decide) (hts (Cond.fieldLink RX2 33 "ChanceRings$Net" "nodes" "I") qw_313) (fun _ h9 => h9) rfl dX2_addNode_1 ?_
  refine lv_bipush (v := 12) hx hb dX2_addNode_4 (by decide) ?_
  refine lv_icmp_ge (tgt := 69) hx hb dX2_addNode_6 (by decide) (fun h9 => (nr_x_le (⟨by decide, by decide⟩ : 12 ≤ (12 : Int32).toInt ∧ (12 : Int32).toInt ≤ 12) h_n_nodes (Int32.le_iff_toInt_le.mp h9) (by decide)).elim) (fun c_59456 => ?_)
  have kk_12 := tk_12
  have c_59456_i := Int32.lt_iff_toInt_lt.mp (Int32.not_le.mp c_59456)
  refine lv_aload_n hx hb dX2_addNode_9 rfl (lv_at hl 0 rfl) ?_
  refine va_get (D := D) (ci := 2) (v := .ref n_kind) (C := RX2) (T := TX2) (N := 8) hx hb hts inlX2 hown hK hP 0 rfl rfl 1 (by decide) (hts (Cond.fieldLink RX2 9 "ChanceRings$Net" "kind" "[I") qw_316) (fun _ h9 => h9) rfl dX2_addNode_10 ?_
  refine lv_aload_n hx hb dX2_addNode_13 rfl (lv_at hl 0 rfl) ?_
  refine va_get (D := D) (ci := 2) (v := .int n_nodes) (C := RX2) (T := TX2) (N := 8) hx hb hts inlX2 hown hK hP 0 rfl rfl 0 (by decide) (hts (Cond.fieldLink RX2 33 "ChanceRings$Net" "nodes" "I") qw_313) (fun _ h9 => h9) rfl dX2_addNode_14 ?_
  refine lv_iload_n hx hb dX2_addNode_17 rfl (lv_at hl 1 rfl) ?_
  refine va_iast hx hb hK hP hD hS 1 0 rfl rfl (tr_in h_n_nodes (by decide) (by decide)) dX2_addNode_18 (fun H locs hP hD hS => ?_)
  obtain ⟨f_59457, f_59457_e, h_f_59457, hP, hD⟩ : ∃ FX : Nat → Int32, FX = (upd n_fkind (n_nodes : Int32).toNatClampNeg p0) ∧ (∀ j : Nat, 0 ≤ (FX j).toInt ∧ (FX j).toInt ≤ 3) ∧ va_P D vwCl [(wO2 n n_nodes n_kind n_pay n_name n_ways n_held n_targets n_weights), (wI g n_kind 0 12 FX), (wI g n_pay 0 12 n_fpay), (wI g n_name 0 12 n_fname), (wI g n_ways 0 12 n_fways), (wI g n_held 0 12 n_fheld)] H ∧ va_D A [(wO2 n n_nodes n_kind n_pay n_name n_ways n_held n_targets n_weights), (wI g n_kind 0 12 FX), (wI g n_pay 0 12 n_fpay), (wI g n_name 0 12 n_fname), (wI g n_ways 0 12 n_fways), (wI g n_held 0 12 n_fheld)] := ⟨_, rfl, tr_upd h_n_fkind (tr_w h_p0 (by decide) (by decide)), hP, hD⟩
  have hP : va_P D vwCl [(wO2 n n_nodes n_kind n_pay n_name n_ways n_held n_targets n_weights), (wI g n_kind 0 12 f_59457), (wI g n_pay 0 12 n_fpay), (wI g n_name 0 12 n_fname), (wI g n_ways 0 12 n_fways), (wI g n_held 0 12 n_fheld)] H := hP
  have hD : va_D A [(wO2 n n_nodes n_kind n_pay n_name n_ways n_held n_targets n_weights), (wI g n_kind 0 12 f_59457), (wI g n_pay 0 12 n_fpay), (wI g n_name 0 12 n_fname), (wI g n_ways 0 12 n_fways), (wI g n_held 0 12 n_fheld)] := hD
  refine lv_aload_n hx hb dX2_addNode_19 rfl (lv_at hl 0 rfl) ?_
  refine va_get (D := D) (ci := 2) (v := .ref n_name) (C := RX2) (T := TX2) (N := 8) hx hb hts inlX2 hown hK hP 0 rfl rfl 3 (by decide) (hts (Cond.fieldLink RX2 18 "ChanceRings$Net" "name" "[I") qw_333) (fun _ h9 => h9) rfl dX2_addNode_20 ?_
  refine lv_aload_n hx hb dX2_addNode_23 rfl (lv_at hl 0 rfl) ?_
  refine va_get (D := D) (ci := 2) (v := .int n_nodes) (C := RX2) (T := TX2) (N := 8) hx hb hts inlX2 hown hK hP 0 rfl rfl 0 (by decide) (hts (Cond.fieldLink RX2 33 "ChanceRings$Net" "nodes" "I") qw_313) (fun _ h9 => h9) rfl dX2_addNode_24 ?_
  refine lv_iload_n hx hb dX2_addNode_27 rfl (lv_at hl 2 rfl) ?_
  refine va_iast hx hb hK hP hD hS 3 0 rfl rfl (tr_in h_n_nodes (by decide) (by decide)) dX2_addNode_28 (fun H locs hP hD hS => ?_)
  obtain ⟨f_59458, f_59458_e, hP, hD⟩ : ∃ FX : Nat → Int32, FX = (upd n_fname (n_nodes : Int32).toNatClampNeg p1) ∧ va_P D vwCl [(wO2 n n_nodes n_kind n_pay n_name n_ways n_held n_targets n_weights), (wI g n_kind 0 12 f_59457), (wI g n_pay 0 12 n_fpay), (wI g n_name 0 12 FX), (wI g n_ways 0 12 n_fways), (wI g n_held 0 12 n_fheld)] H ∧ va_D A [(wO2 n n_nodes n_kind n_pay n_name n_ways n_held n_targets n_weights), (wI g n_kind 0 12 f_59457), (wI g n_pay 0 12 n_fpay), (wI g n_name 0 12 FX), (wI g n_ways 0 12 n_fways), (wI g n_held 0 12 n_fheld)] := ⟨_, rfl, hP, hD⟩
  have hP : va_P D vwCl [(wO2 n n_nodes n_kind n_pay n_name n_ways n_held n_targets n_weights), (wI g n_kind 0 12 f_59457), (wI g n_pay 0 12 n_fpay), (wI g n_name 0 12 f_59458), (wI g n_ways 0 12 n_fways), (wI g n_held 0 12 n_fheld)] H := hP
  have hD : va_D A [(wO2 n n_nodes n_kind n_pay n_name n_ways n_held n_targets n_weights), (wI g n_kind 0 12 f_59457), (wI g n_pay 0 12 n_fpay), (wI g n_name 0 12 f_59458), (wI g n_ways 0 12 n_fways), (wI g n_held 0 12 n_fheld)] := hD
  refine lv_aload_n hx hb dX2_addNode_29 rfl (lv_at hl 0 rfl) ?_
  refine va_get (D := D) (ci := 2) (v := .ref n_pay) (C := RX2) (T := TX2) (N := 8) hx hb hts inlX2 hown hK hP 0 rfl rfl 2 (by decide) (hts (Cond.fieldLink RX2 15 "ChanceRings$Net" "pay" "[I") qw_317) (fun _ h9 => h9) rfl dX2_addNode_30 ?_
  refine lv_aload_n hx hb dX2_addNode_33 rfl (lv_at hl 0 rfl) ?_
  refine va_get (D := D) (ci := 2) (v := .int n_nodes) (C := RX2) (T := TX2) (N := 8) hx hb hts inlX2 hown hK hP 0 rfl rfl 0 (by decide) (hts (Cond.fieldLink RX2 33 "ChanceRings$Net" "nodes" "I") qw_313) (fun _ h9 => h9) rfl dX2_addNode_34 ?_
  refine lv_iload_n hx hb dX2_addNode_37 rfl (lv_at hl 3 rfl) ?_
  refine va_iast hx hb hK hP hD hS 2 0 rfl rfl (tr_in h_n_nodes (by decide) (by decide)) dX2_addNode_38 (fun H locs hP hD hS => ?_)
  obtain ⟨f_59459, f_59459_e, hP, hD⟩ : ∃ FX : Nat → Int32, FX = (upd n_fpay (n_nodes : Int32).toNatClampNeg p2) ∧ va_P D vwCl [(wO2 n n_nodes n_kind n_pay n_name n_ways n_held n_targets n_weights), (wI g n_kind 0 12 f_59457), (wI g n_pay 0 12 FX), (wI g n_name 0 12 f_59458), (wI g n_ways 0 12 n_fways), (wI g n_held 0 12 n_fheld)] H ∧ va_D A [(wO2 n n_nodes n_kind n_pay n_name n_ways n_held n_targets n_weights), (wI g n_kind 0 12 f_59457), (wI g n_pay 0 12 FX), (wI g n_name 0 12 f_59458), (wI g n_ways 0 12 n_fways), (wI g n_held 0 12 n_fheld)] := ⟨_, rfl, hP, hD⟩
  have hP : va_P D vwCl [(wO2 n n_nodes n_kind n_pay n_name n_ways n_held n_targets n_weights), (wI g n_kind 0 12 f_59457), (wI g n_pay 0 12 f_59459), (wI g n_name 0 12 f_59458), (wI g n_ways 0 12 n_fways), (wI g n_held 0 12 n_fheld)] H := hP
  have hD : va_D A [(wO2 n n_nodes n_kind n_pay n_name n_ways n_held n_targets n_weights), (wI g n_kind 0 12 f_59457), (wI g n_pay 0 12 f_59459), (wI g n_name 0 12 f_59458), (wI g n_ways 0 12 n_fways), (wI g n_held 0 12 n_fheld)] := hD
  refine lv_aload_n hx hb dX2_addNode_39 rfl (lv_at hl 0 rfl) ?_
  refine va_get (D := D) (ci := 2) (v := .ref n_ways) (C := RX2) (T := TX2) (N := 8) hx hb hts inlX2 hown hK hP 0 rfl rfl 4 (by decide) (hts (Cond.fieldLink RX2 21 "ChanceRings$Net" "ways" "[I") qw_318) (fun _ h9 => h9) rfl dX2_addNode_40 ?_
  refine lv_aload_n hx hb dX2_addNode_43 rfl (lv_at hl 0 rfl) ?_
  refine va_get (D := D) (ci := 2) (v := .int n_nodes) (C := RX2) (T := TX2) (N := 8) hx hb hts inlX2 hown hK hP 0 rfl rfl 0 (by decide) (hts (Cond.fieldLink RX2 33 "ChanceRings$Net" "nodes" "I") qw_313) (fun _ h9 => h9) rfl dX2_addNode_44 ?_
  refine lv_iconst (v := 0) hx hb dX2_addNode_47 (by decide) ?_
  refine va_iast hx hb hK hP hD hS 4 0 rfl rfl (tr_in h_n_nodes (by decide) (by decide)) dX2_addNode_48 (fun H locs hP hD hS => ?_)
  obtain ⟨f_59460, f_59460_e, h_f_59460, hP, hD⟩ : ∃ FX : Nat → Int32, FX = (upd n_fways (n_nodes : Int32).toNatClampNeg 0) ∧ (∀ j : Nat, 0 ≤ (FX j).toInt ∧ (FX j).toInt ≤ 3) ∧ va_P D vwCl [(wO2 n n_nodes n_kind n_pay n_name n_ways n_held n_targets n_weights), (wI g n_kind 0 12 f_59457), (wI g n_pay 0 12 f_59459), (wI g n_name 0 12 f_59458), (wI g n_ways 0 12 FX), (wI g n_held 0 12 n_fheld)] H ∧ va_D A [(wO2 n n_nodes n_kind n_pay n_name n_ways n_held n_targets n_weights), (wI g n_kind 0 12 f_59457), (wI g n_pay 0 12 f_59459), (wI g n_name 0 12 f_59458), (wI g n_ways 0 12 FX), (wI g n_held 0 12 n_fheld)] := ⟨_, rfl, tr_upd h_n_fways (⟨by decide, by decide⟩ : 0 ≤ (0 : Int32).toInt ∧ (0 : Int32).toInt ≤ 3), hP, hD⟩
  have hP : va_P D vwCl [(wO2 n n_nodes n_kind n_pay n_name n_ways n_held n_targets n_weights), (wI g n_kind 0 12 f_59457), (wI g n_pay 0 12 f_59459), (wI g n_name 0 12 f_59458), (wI g n_ways 0 12 f_59460), (wI g n_held 0 12 n_fheld)] H := hP
  have hD : va_D A [(wO2 n n_nodes n_kind n_pay n_name n_ways n_held n_targets n_weights), (wI g n_kind 0 12 f_59457), (wI g n_pay 0 12 f_59459), (wI g n_name 0 12 f_59458), (wI g n_ways 0 12 f_59460), (wI g n_held 0 12 n_fheld)] := hD
  refine lv_aload_n hx hb dX2_addNode_49 rfl (lv_at hl 0 rfl) ?_
  refine va_get (D := D) (ci := 2) (v := .ref n_held) (C := RX2) (T := TX2) (N := 8) hx hb hts inlX2 hown hK hP 0 rfl rfl 5 (by decide) (hts (Cond.fieldLink RX2 24 "ChanceRings$Net" "held" "[I") qw_314) (fun _ h9 => h9) rfl dX2_addNode_50 ?_
  refine lv_aload_n hx hb dX2_addNode_53 rfl (lv_at hl 0 rfl) ?_
  refine va_get (D := D) (ci := 2) (v := .int n_nodes) (C := RX2) (T := TX2) (N := 8) hx hb hts inlX2 hown hK hP 0 rfl rfl 0 (by decide) (hts (Cond.fieldLink RX2 33 "ChanceRings$Net" "nodes" "I") qw_313) (fun _ h9 => h9) rfl dX2_addNode_54 ?_
  refine lv_iconst (v := (-1)) hx hb dX2_addNode_57 (by decide) ?_
  refine va_iast hx hb hK hP hD hS 5 0 rfl rfl (tr_in h_n_nodes (by decide) (by decide)) dX2_addNode_58 (fun H locs hP hD hS => ?_)
  obtain ⟨f_59461, f_59461_e, h_f_59461, hP, hD⟩ : ∃ FX : Nat → Int32, FX = (upd n_fheld (n_nodes : Int32).toNatClampNeg (-1)) ∧ (∀ j : Nat, (-1) ≤ (FX j).toInt ∧ (FX j).toInt ≤ 2) ∧ va_P D vwCl [(wO2 n n_nodes n_kind n_pay n_name n_ways n_held n_targets n_weights), (wI g n_kind 0 12 f_59457), (wI g n_pay 0 12 f_59459), (wI g n_name 0 12 f_59458), (wI g n_ways 0 12 f_59460), (wI g n_held 0 12 FX)] H ∧ va_D A [(wO2 n n_nodes n_kind n_pay n_name n_ways n_held n_targets n_weights), (wI g n_kind 0 12 f_59457), (wI g n_pay 0 12 f_59459), (wI g n_name 0 12 f_59458), (wI g n_ways 0 12 f_59460), (wI g n_held 0 12 FX)] := ⟨_, rfl, tr_upd h_n_fheld (⟨by decide, by decide⟩ : (-1) ≤ ((-1) : Int32).toInt ∧ ((-1) : Int32).toInt ≤ 2), hP, hD⟩
  have hP : va_P D vwCl [(wO2 n n_nodes n_kind n_pay n_name n_ways n_held n_targets n_weights), (wI g n_kind 0 12 f_59457), (wI g n_pay 0 12 f_59459), (wI g n_name 0 12 f_59458), (wI g n_ways 0 12 f_59460), (wI g n_held 0 12 f_59461)] H := hP
  have hD : va_D A [(wO2 n n_nodes n_kind n_pay n_name n_ways n_held n_targets n_weights), (wI g n_kind 0 12 f_59457), (wI g n_pay 0 12 f_59459), (wI g n_name 0 12 f_59458), (wI g n_ways 0 12 f_59460), (wI g n_held 0 12 f_59461)] := hD
  refine lv_aload_n hx hb dX2_addNode_59 rfl (lv_at hl 0 rfl) ?_
  refine lv_dup hx hb dX2_addNode_60 rfl ?_
  refine va_get (D := D) (ci := 2) (v := .int n_nodes) (C := RX2) (T := TX2) (N := 8) hx hb hts inlX2 hown hK hP 0 rfl rfl 0 (by decide) (hts (Cond.fieldLink RX2 33 "ChanceRings$Net" "nodes" "I") qw_313) (fun _ h9 => h9) rfl dX2_addNode_61 ?_
  refine lv_iconst (v := 1) hx hb dX2_addNode_64 (by decide) ?_
  refine lv_iadd hx hb dX2_addNode_65 ?_
  refine lv_topi (fun v_59462 v_59462_e => ?_)
  have h_v_59462 : 1 ≤ (v_59462 : Int32).toInt ∧ (v_59462 : Int32).toInt ≤ 12 := by rw [v_59462_e]; exact tr_add h_n_nodes (⟨by decide, by decide⟩ : 1 ≤ (1 : Int32).toInt ∧ (1 : Int32).toInt ≤ 1) (by decide) (by decide) (by decide) (by decide)
  have q_v_59462 : v_59462.toInt = n_nodes.toInt + 1 := by rw [v_59462_e]; exact tr_addE h_n_nodes (⟨by decide, by decide⟩ : 1 ≤ (1 : Int32).toInt ∧ (1 : Int32).toInt ≤ 1) (by decide) (by decide)
  refine va_put (D := D) (ci := 2) (v := .int v_59462) (ty := .int) (C := RX2) (T := TX2) (N := 8) hx hb hts inlX2 tyX2 tyX2_ok nmX2 hown hK hP hD hS 0 rfl rfl 0 (by decide) (hts (Cond.fieldLink RX2 33 "ChanceRings$Net" "nodes" "I") qw_313) (fun _ h9 => h9) rfl (by decide +kernel) rfl rfl (Nat.le_of_ble_eq_true rfl) dX2_addNode_66 (fun H locs hP hD hS => ?_)
  have hP : va_P D vwCl [(wO2 n v_59462 n_kind n_pay n_name n_ways n_held n_targets n_weights), (wI g n_kind 0 12 f_59457), (wI g n_pay 0 12 f_59459), (wI g n_name 0 12 f_59458), (wI g n_ways 0 12 f_59460), (wI g n_held 0 12 f_59461)] H := hP
  have hD : va_D A [(wO2 n v_59462 n_kind n_pay n_name n_ways n_held n_targets n_weights), (wI g n_kind 0 12 f_59457), (wI g n_pay 0 12 f_59459), (wI g n_name 0 12 f_59458), (wI g n_ways 0 12 f_59460), (wI g n_held 0 12 f_59461)] := hD
  have hP9 := hP.sub (ws' := [(wO2 n v_59462 n_kind n_pay n_name n_ways n_held n_targets n_weights), (wI g n_kind 0 12 f_59457), (wI g n_pay 0 12 f_59459), (wI g n_name 0 12 f_59458), (wI g n_ways 0 12 f_59460), (wI g n_held 0 12 f_59461)]) [0, 1, 2, 3, 4, 5] rfl
  have hD9 := hD.sub (ws' := [(wO2 n v_59462 n_kind n_pay n_name n_ways n_held n_targets n_weights), (wI g n_kind 0 12 f_59457), (wI g n_pay 0 12 f_59459), (wI g n_name 0 12 f_59458), (wI g n_ways 0 12 f_59460), (wI g n_held 0 12 f_59461)]) [0, 1, 2, 3, 4, 5] (by decide) rfl
  exact W.vret hx hb hr (fun t ht hW => ⟨⟨(), rfl, trivial, v_59462, f_59457, f_59459, f_59458, f_59460, f_59461, (tr_w h_v_59462 (by decide) (by decide)), (tr_wa h_f_59457 (by decide) (by decide)), (tr_wa h_f_59460 (by decide) (by decide)), (tr_wa h_f_59461 (by decide) (by decide)), (by have z_0 := tk_0; have z_1 := tk_1; omega), f_59457_e, f_59458_e, f_59459_e, f_59460_e, f_59461_e, by rw [ht]; exact hP9, hD9⟩, hS.F ht⟩) hS.2.2 dX2_addNode_69
set_option maxHeartbeats 4000000 in
set_option maxRecDepth 100000 in
theorem c_X2_addWay (l : Launch) (D : va_G) (g : Nat → ClassId) (sz : Nat) (n : Nat) (p0 : Int32) (p1 : Int32) (p2 : Int32) (n_nodes : Int32) (n_kind : Nat) (n_pay : Nat) (n_name : Nat) (n_ways : Nat) (n_held : Nat) (n_targets : Nat) (n_weights : Nat) (n_fways : Nat → Int32) (n_ftargets : Nat → Int32) (n_fweights : Nat → Int32) (h_p0 : 0 ≤ (p0 : Int32).toInt ∧ (p0 : Int32).toInt ≤ 11) (h_p1 : 0 ≤ (p1 : Int32).toInt ∧ (p1 : Int32).toInt ≤ 11) (h_n_nodes : 0 ≤ (n_nodes : Int32).toInt ∧ (n_nodes : Int32).toInt ≤ 12) (h_n_fways : ∀ j : Nat, 0 ≤ (n_fways j).toInt ∧ (n_fways j).toInt ≤ 3) (h_n_ftargets : ∀ j : Nat, 0 ≤ (n_ftargets j).toInt ∧ (n_ftargets j).toInt ≤ 11) (hw3 : (n_fways (p0 : Int32).toInt.toNat).toInt < 3) : Met l yX2_addWay (.code yX2_addWay cX2_addWay 4 none :: wsL_law) ({ frames := 0, cells := 0, slots := 0, locals := 0 }) (va_Pc [.ref n, .int p0, .int p1, .int p2] (fun U => U.heap.size = sz ∧ va_P D vwCl [(wO2 n n_nodes n_kind n_pay n_name n_ways n_held n_targets n_weights), (wI g n_ways 0 12 n_fways), (wI g n_targets 0 36 n_ftargets), (wI g n_weights 0 36 n_fweights)] U.heap ∧ va_K D vwCl (TY g) U ∧ va_D (fun _ => True) [(wO2 n n_nodes n_kind n_pay n_name n_ways n_held n_targets n_weights), (wI g n_ways 0 12 n_fways), (wI g n_targets 0 36 n_ftargets), (wI g n_weights 0 36 n_fweights)])) (va_Qv (fun (_ : Unit) => True) (fun _ t => ∃ n_gways : Nat → Int32, ∃ n_gtargets : Nat → Int32, ∃ n_gweights : Nat → Int32, ∃ own : Int32, (∀ j : Nat, 0 ≤ (n_gways j).toInt ∧ (n_gways j).toInt ≤ 3) ∧ (∀ j : Nat, 0 ≤ (n_gtargets j).toInt ∧ (n_gtargets j).toInt ≤ 11) ∧ (n_gtargets = upd n_ftargets (3 * (p0 : Int32).toInt.toNat + (n_fways (p0 : Int32).toInt.toNat).toInt.toNat) p1) ∧ (n_gweights = upd n_fweights (3 * (p0 : Int32).toInt.toNat + (n_fways (p0 : Int32).toInt.toNat).toInt.toNat) p2) ∧ (n_gways = upd n_fways (p0 : Int32).toInt.toNat own) ∧ ((own : Int32).toInt = (n_fways (p0 : Int32).toInt.toNat).toInt + 1) ∧ va_P D vwCl [(wO2 n n_nodes n_kind n_pay n_name n_ways n_held n_targets n_weights), (wI g n_ways 0 12 n_gways), (wI g n_targets 0 36 n_gtargets), (wI g n_weights 0 36 n_gweights)] t.heap ∧ va_D (va_A [(wO2 n n_nodes n_kind n_pay n_name n_ways n_held n_targets n_weights), (wI g n_ways 0 12 n_fways), (wI g n_targets 0 36 n_ftargets), (wI g n_weights 0 36 n_fweights)] sz) [(wO2 n n_nodes n_kind n_pay n_name n_ways n_held n_targets n_weights), (wI g n_ways 0 12 n_gways), (wI g n_targets 0 36 n_gtargets), (wI g n_weights 0 36 n_gweights)]) (va_A [(wO2 n n_nodes n_kind n_pay n_name n_ways n_held n_targets n_weights), (wI g n_ways 0 12 n_fways), (wI g n_targets 0 36 n_ftargets), (wI g n_weights 0 36 n_fweights)] sz)) 0 0 (va_A [(wO2 n n_nodes n_kind n_pay n_name n_ways n_held n_targets n_weights), (wI g n_ways 0 12 n_fways), (wI g n_targets 0 36 n_ftargets), (wI g n_weights 0 36 n_fweights)] sz) := by
  refine Met.ofW (cc := cX2_addWay) (maxL := 4) (ret := none) (by decide) rfl ?_
  intro p e s m args below meth c s₁ B hml hv
  obtain ⟨ha, hsz, hP, hK, hD0⟩ := hv
  have hx := B.exec
  have hb := B.bytes
  have hr := B.returns
  have hts0 := atoms_spec (ws := (.code yX2_addWay cX2_addWay 4 none :: wsL_law)) B.pre
  have hts : ∀ w ∈ wsL_law, w.before args s = true := fun w h => hts0 w (List.mem_cons_of_mem _ h)
  have hown : s.vm.findClass RX2 = some m.cls := findClass_of_methodNamed B.named
  have hlocks := B.notSynchronized
  subst hsz
  have hD := hD0.self (sz := s.heap.size)
  generalize hAe : va_A [(wO2 n n_nodes n_kind n_pay n_name n_ways n_held n_targets n_weights), (wI g n_ways 0 12 n_fways), (wI g n_targets 0 36 n_ftargets), (wI g n_weights 0 36 n_fweights)] s.heap.size = A at hD ⊢
  have hA : ∀ q : Nat, s.heap.size ≤ q → A q := fun q h => by rw [← hAe]; exact Or.inr h
  have hS : va_S A s.heap s.heap [] := va_S.rf
  have hP : va_P D vwCl [(wO2 n n_nodes n_kind n_pay n_name n_ways n_held n_targets n_weights), (wI g n_ways 0 12 n_fways), (wI g n_targets 0 36 n_ftargets), (wI g n_weights 0 36 n_fweights)] s.heap := hP
  refine W.eq (g2 := entryFrame m ([.ref n, .int p0, .int p1, .int p2] : List Value).toArray 4) (by rw [ha]) ?_
  have hl := lv_entry ([.ref n, .int p0, .int p1, .int p2]) (n := 4) (Nat.le_of_ble_eq_true rfl)
  rw [lg_entry_eq]
  generalize (lg_sl ([.ref n, .int p0, .int p1, .int p2]) ++ List.replicate (4 - (lg_sl ([.ref n, .int p0, .int p1, .int p2])).length) Slot.unset).toArray = ls at hl ⊢
  have hl : lv_has ls 4 [(0, .ref n), (1, .int p0), (2, .int p1), (3, .int p2)] := hl
  refine lv_aload_n hx hb dX2_addWay_0 rfl (lv_at hl 0 rfl) ?_
  refine va_get (D := D) (ci := 2) (v := .ref n_ways) (C := RX2) (T := TX2) (N := 8) hx hb hts inlX2 hown hK hP 0 rfl rfl 4 (by decide) (hts (Cond.fieldLink RX2 21 "ChanceRings$Net" "ways" "[I") qw_318) (fun _ h9 => h9) rfl dX2_addWay_1 ?_
  refine lv_iload_n hx hb dX2_addWay_4 rfl (lv_at hl 1 rfl) ?_
  refine va_iald hx hb hK hP 1 0 rfl rfl (tr_in h_p0 (by decide) (by decide)) dX2_addWay_5 ?_
  refine lv_topi (fun v_59463 v_59463_e => ?_)
  have h_v_59463 : 0 ≤ (v_59463 : Int32).toInt ∧ (v_59463 : Int32).toInt ≤ 3 := by rw [v_59463_e]; exact h_n_fways _
  have g_v_59463 : v_59463 = n_fways (p0.toInt.toNat) := v_59463_e.trans (congrArg n_fways rfl)
  have gi_v_59463 := congrArg Int32.toInt g_v_59463
  have h_59464 : 0 ≤ (v_59463 : Int32).toInt ∧ (v_59463 : Int32).toInt ≤ 2 := by have q9 := hw3; have q8 := gi_v_59463; omega
  refine lv_iconst (v := 3) hx hb dX2_addWay_6 (by decide) ?_
  refine lv_icmp_ge (tgt := 52) hx hb dX2_addWay_7 (by decide) (fun h9 => (nr_x_le (⟨by decide, by decide⟩ : 3 ≤ (3 : Int32).toInt ∧ (3 : Int32).toInt ≤ 3) h_59464 (Int32.le_iff_toInt_le.mp h9) (by decide)).elim) (fun c_59465 => ?_)
  have kk_3 := tk_3
  have c_59465_i := Int32.lt_iff_toInt_lt.mp (Int32.not_le.mp c_59465)
  refine lv_aload_n hx hb dX2_addWay_10 rfl (lv_at hl 0 rfl) ?_
  refine va_get (D := D) (ci := 2) (v := .ref n_targets) (C := RX2) (T := TX2) (N := 8) hx hb hts inlX2 hown hK hP 0 rfl rfl 6 (by decide) (hts (Cond.fieldLink RX2 27 "ChanceRings$Net" "targets" "[I") qw_315) (fun _ h9 => h9) rfl dX2_addWay_11 ?_
  refine lv_iload_n hx hb dX2_addWay_14 rfl (lv_at hl 1 rfl) ?_
  refine lv_iconst (v := 3) hx hb dX2_addWay_15 (by decide) ?_
  refine lv_imul hx hb dX2_addWay_16 ?_
  refine lv_topi (fun v_59466 v_59466_e => ?_)
  have h_v_59466 : 0 ≤ (v_59466 : Int32).toInt ∧ (v_59466 : Int32).toInt ≤ 33 := by rw [v_59466_e]; exact tr_mul h_p0 (⟨by decide, by decide⟩ : 3 ≤ (3 : Int32).toInt ∧ (3 : Int32).toInt ≤ 3) (by decide) (by decide) (by decide) (by decide)
  have q_v_59466 : v_59466.toInt = p0.toInt * 3 := by rw [v_59466_e]; exact (tr_mulX h_p0 (⟨by decide, by decide⟩ : 3 ≤ (3 : Int32).toInt ∧ (3 : Int32).toInt ≤ 3) (by decide) (by decide)).trans (by rw [tk_3])
  refine lv_aload_n hx hb dX2_addWay_17 rfl (lv_at hl 0 rfl) ?_
  refine va_get (D := D) (ci := 2) (v := .ref n_ways) (C := RX2) (T := TX2) (N := 8) hx hb hts inlX2 hown hK hP 0 rfl rfl 4 (by decide) (hts (Cond.fieldLink RX2 21 "ChanceRings$Net" "ways" "[I") qw_318) (fun _ h9 => h9) rfl dX2_addWay_18 ?_
  refine lv_iload_n hx hb dX2_addWay_21 rfl (lv_at hl 1 rfl) ?_
  refine va_iald hx hb hK hP 1 0 rfl rfl (tr_in h_p0 (by decide) (by decide)) dX2_addWay_22 ?_
  refine tz_i (y := v_59463) ((congrArg n_fways rfl).trans g_v_59463.symm) ?_
  refine lv_iadd hx hb dX2_addWay_23 ?_
  refine lv_topi (fun v_59467 v_59467_e => ?_)
  have h_v_59467 : 0 ≤ (v_59467 : Int32).toInt ∧ (v_59467 : Int32).toInt ≤ 35 := by rw [v_59467_e]; exact tr_add h_v_59466 h_59464 (by decide) (by decide) (by decide) (by decide)
  have q_v_59467 : v_59467.toInt = v_59466.toInt + v_59463.toInt := by rw [v_59467_e]; exact tr_addX h_v_59466 h_59464 (by decide) (by decide)
  refine lv_iload_n hx hb dX2_addWay_24 rfl (lv_at hl 2 rfl) ?_
  refine va_iast hx hb hK hP hD hS 2 0 rfl rfl (tr_in h_v_59467 (by decide) (by decide)) dX2_addWay_25 (fun H locs hP hD hS => ?_)
  obtain ⟨f_59468, f_59468_e, h_f_59468, hP, hD⟩ : ∃ FX : Nat → Int32, FX = (upd n_ftargets (v_59467 : Int32).toNatClampNeg p1) ∧ (∀ j : Nat, 0 ≤ (FX j).toInt ∧ (FX j).toInt ≤ 11) ∧ va_P D vwCl [(wO2 n n_nodes n_kind n_pay n_name n_ways n_held n_targets n_weights), (wI g n_ways 0 12 n_fways), (wI g n_targets 0 36 FX), (wI g n_weights 0 36 n_fweights)] H ∧ va_D A [(wO2 n n_nodes n_kind n_pay n_name n_ways n_held n_targets n_weights), (wI g n_ways 0 12 n_fways), (wI g n_targets 0 36 FX), (wI g n_weights 0 36 n_fweights)] := ⟨_, rfl, tr_upd h_n_ftargets (tr_w h_p1 (by decide) (by decide)), hP, hD⟩
  have hP : va_P D vwCl [(wO2 n n_nodes n_kind n_pay n_name n_ways n_held n_targets n_weights), (wI g n_ways 0 12 n_fways), (wI g n_targets 0 36 f_59468), (wI g n_weights 0 36 n_fweights)] H := hP
  have hD : va_D A [(wO2 n n_nodes n_kind n_pay n_name n_ways n_held n_targets n_weights), (wI g n_ways 0 12 n_fways), (wI g n_targets 0 36 f_59468), (wI g n_weights 0 36 n_fweights)] := hD
  refine lv_aload_n hx hb dX2_addWay_26 rfl (lv_at hl 0 rfl) ?_
  refine va_get (D := D) (ci := 2) (v := .ref n_weights) (C := RX2) (T := TX2) (N := 8) hx hb hts inlX2 hown hK hP 0 rfl rfl 7 (by decide) (hts (Cond.fieldLink RX2 30 "ChanceRings$Net" "weights" "[I") qw_332) (fun _ h9 => h9) rfl dX2_addWay_27 ?_
  refine lv_iload_n hx hb dX2_addWay_30 rfl (lv_at hl 1 rfl) ?_
  refine lv_iconst (v := 3) hx hb dX2_addWay_31 (by decide) ?_
  refine lv_imul hx hb dX2_addWay_32 ?_
  refine lv_topi (fun v_59469 v_59469_e => ?_)
  have h_v_59469 : 0 ≤ (v_59469 : Int32).toInt ∧ (v_59469 : Int32).toInt ≤ 33 := by rw [v_59469_e]; exact tr_mul h_p0 (⟨by decide, by decide⟩ : 3 ≤ (3 : Int32).toInt ∧ (3 : Int32).toInt ≤ 3) (by decide) (by decide) (by decide) (by decide)
  have q_v_59469 : v_59469.toInt = p0.toInt * 3 := by rw [v_59469_e]; exact (tr_mulX h_p0 (⟨by decide, by decide⟩ : 3 ≤ (3 : Int32).toInt ∧ (3 : Int32).toInt ≤ 3) (by decide) (by decide)).trans (by rw [tk_3])
  refine lv_aload_n hx hb dX2_addWay_33 rfl (lv_at hl 0 rfl) ?_
  refine va_get (D := D) (ci := 2) (v := .ref n_ways) (C := RX2) (T := TX2) (N := 8) hx hb hts inlX2 hown hK hP 0 rfl rfl 4 (by decide) (hts (Cond.fieldLink RX2 21 "ChanceRings$Net" "ways" "[I") qw_318) (fun _ h9 => h9) rfl dX2_addWay_34 ?_
  refine lv_iload_n hx hb dX2_addWay_37 rfl (lv_at hl 1 rfl) ?_
  refine va_iald hx hb hK hP 1 0 rfl rfl (tr_in h_p0 (by decide) (by decide)) dX2_addWay_38 ?_
  refine tz_i (y := v_59463) ((congrArg n_fways rfl).trans g_v_59463.symm) ?_
  refine lv_iadd hx hb dX2_addWay_39 ?_
  refine lv_topi (fun v_59470 v_59470_e => ?_)
  have h_v_59470 : 0 ≤ (v_59470 : Int32).toInt ∧ (v_59470 : Int32).toInt ≤ 35 := by rw [v_59470_e]; exact tr_add h_v_59469 h_59464 (by decide) (by decide) (by decide) (by decide)
  have q_v_59470 : v_59470.toInt = v_59469.toInt + v_59463.toInt := by rw [v_59470_e]; exact tr_addX h_v_59469 h_59464 (by decide) (by decide)
  refine lv_iload_n hx hb dX2_addWay_40 rfl (lv_at hl 3 rfl) ?_
  refine va_iast hx hb hK hP hD hS 3 0 rfl rfl (tr_in h_v_59470 (by decide) (by decide)) dX2_addWay_41 (fun H locs hP hD hS => ?_)
  obtain ⟨f_59471, f_59471_e, hP, hD⟩ : ∃ FX : Nat → Int32, FX = (upd n_fweights (v_59470 : Int32).toNatClampNeg p2) ∧ va_P D vwCl [(wO2 n n_nodes n_kind n_pay n_name n_ways n_held n_targets n_weights), (wI g n_ways 0 12 n_fways), (wI g n_targets 0 36 f_59468), (wI g n_weights 0 36 FX)] H ∧ va_D A [(wO2 n n_nodes n_kind n_pay n_name n_ways n_held n_targets n_weights), (wI g n_ways 0 12 n_fways), (wI g n_targets 0 36 f_59468), (wI g n_weights 0 36 FX)] := ⟨_, rfl, hP, hD⟩
  have hP : va_P D vwCl [(wO2 n n_nodes n_kind n_pay n_name n_ways n_held n_targets n_weights), (wI g n_ways 0 12 n_fways), (wI g n_targets 0 36 f_59468), (wI g n_weights 0 36 f_59471)] H := hP
  have hD : va_D A [(wO2 n n_nodes n_kind n_pay n_name n_ways n_held n_targets n_weights), (wI g n_ways 0 12 n_fways), (wI g n_targets 0 36 f_59468), (wI g n_weights 0 36 f_59471)] := hD
  refine lv_aload_n hx hb dX2_addWay_42 rfl (lv_at hl 0 rfl) ?_
  refine va_get (D := D) (ci := 2) (v := .ref n_ways) (C := RX2) (T := TX2) (N := 8) hx hb hts inlX2 hown hK hP 0 rfl rfl 4 (by decide) (hts (Cond.fieldLink RX2 21 "ChanceRings$Net" "ways" "[I") qw_318) (fun _ h9 => h9) rfl dX2_addWay_43 ?_
  refine lv_iload_n hx hb dX2_addWay_46 rfl (lv_at hl 1 rfl) ?_
  refine lv_dup2_11 hx hb dX2_addWay_47 rfl rfl ?_
  refine va_iald hx hb hK hP 1 0 rfl rfl (tr_in h_p0 (by decide) (by decide)) dX2_addWay_48 ?_
  refine tz_i (y := v_59463) ((congrArg n_fways rfl).trans g_v_59463.symm) ?_
  refine lv_iconst (v := 1) hx hb dX2_addWay_49 (by decide) ?_
  refine lv_iadd hx hb dX2_addWay_50 ?_
  refine lv_topi (fun v_59472 v_59472_e => ?_)
  have h_v_59472 : 1 ≤ (v_59472 : Int32).toInt ∧ (v_59472 : Int32).toInt ≤ 3 := by rw [v_59472_e]; exact tr_add h_59464 (⟨by decide, by decide⟩ : 1 ≤ (1 : Int32).toInt ∧ (1 : Int32).toInt ≤ 1) (by decide) (by decide) (by decide) (by decide)
  have q_v_59472 : v_59472.toInt = v_59463.toInt + 1 := by rw [v_59472_e]; exact tr_addE h_59464 (⟨by decide, by decide⟩ : 1 ≤ (1 : Int32).toInt ∧ (1 : Int32).toInt ≤ 1) (by decide) (by decide)
  refine va_iast hx hb hK hP hD hS 1 0 rfl rfl (tr_in h_p0 (by decide) (by decide)) dX2_addWay_51 (fun H locs hP hD hS => ?_)
  obtain ⟨f_59473, f_59473_e, h_f_59473, hP, hD⟩ : ∃ FX : Nat → Int32, FX = (upd n_fways (p0 : Int32).toNatClampNeg v_59472) ∧ (∀ j : Nat, 0 ≤ (FX j).toInt ∧ (FX j).toInt ≤ 3) ∧ va_P D vwCl [(wO2 n n_nodes n_kind n_pay n_name n_ways n_held n_targets n_weights), (wI g n_ways 0 12 FX), (wI g n_targets 0 36 f_59468), (wI g n_weights 0 36 f_59471)] H ∧ va_D A [(wO2 n n_nodes n_kind n_pay n_name n_ways n_held n_targets n_weights), (wI g n_ways 0 12 FX), (wI g n_targets 0 36 f_59468), (wI g n_weights 0 36 f_59471)] := ⟨_, rfl, tr_upd h_n_fways (tr_w h_v_59472 (by decide) (by decide)), hP, hD⟩
  have hP : va_P D vwCl [(wO2 n n_nodes n_kind n_pay n_name n_ways n_held n_targets n_weights), (wI g n_ways 0 12 f_59473), (wI g n_targets 0 36 f_59468), (wI g n_weights 0 36 f_59471)] H := hP
  have hD : va_D A [(wO2 n n_nodes n_kind n_pay n_name n_ways n_held n_targets n_weights), (wI g n_ways 0 12 f_59473), (wI g n_targets 0 36 f_59468), (wI g n_weights 0 36 f_59471)] := hD
  have hP9 := hP.sub (ws' := [(wO2 n n_nodes n_kind n_pay n_name n_ways n_held n_targets n_weights), (wI g n_ways 0 12 f_59473), (wI g n_targets 0 36 f_59468), (wI g n_weights 0 36 f_59471)]) [0, 1, 2, 3] rfl
  have hD9 := hD.sub (ws' := [(wO2 n n_nodes n_kind n_pay n_name n_ways n_held n_targets n_weights), (wI g n_ways 0 12 f_59473), (wI g n_targets 0 36 f_59468), (wI g n_weights 0 36 f_59471)]) [0, 1, 2, 3] (by decide) rfl
  exact W.vret hx hb hr (fun t ht hW => ⟨⟨(), rfl, trivial, f_59473, f_59468, f_59471, v_59472, (tr_wa h_f_59473 (by decide) (by decide)), (tr_wa h_f_59468 (by decide) (by decide)), (f_59468_e.trans (congrArg (fun k9 => upd n_ftargets k9 p1) (by show Int.toNat _ = _; have q8 := gi_v_59463; omega))), (f_59471_e.trans (congrArg (fun k9 => upd n_fweights k9 p2) (by show Int.toNat _ = _; have q8 := gi_v_59463; omega))), (f_59473_e.trans (congrArg (fun k9 => upd n_fways k9 v_59472) (by show Int.toNat _ = _; omega))), (by have q8 := gi_v_59463; omega), by rw [ht]; exact hP9, hD9⟩, hS.F ht⟩) hS.2.2 dX2_addWay_52
set_option maxHeartbeats 4000000 in
set_option maxRecDepth 100000 in
theorem c_X2_hasN (l : Launch) (D : va_G) (g : Nat → ClassId) (n : Nat) (p0 : Int32) (n_nodes : Int32) (n_kind : Nat) (n_pay : Nat) (n_name : Nat) (n_ways : Nat) (n_held : Nat) (n_targets : Nat) (n_weights : Nat) (h_n_nodes : 0 ≤ (n_nodes : Int32).toInt ∧ (n_nodes : Int32).toInt ≤ 12) : Met l yX2_has (.code yX2_has cX2_has 2 (some .boolean) :: wsL_law) ({ frames := 0, cells := 0, slots := 0, locals := 0 }) (va_Pc [.ref n, .int p0] (fun U => va_P D vwCl [(wO2 n n_nodes n_kind n_pay n_name n_ways n_held n_targets n_weights)] U.heap ∧ va_K D vwCl (TY g) U)) (vp_Si (fun r => (0 ≤ (r : Int32).toInt ∧ (r : Int32).toInt ≤ 1) ∧ (Hide (¬ (r : Int32).toInt = 0 → (0 ≤ (p0 : Int32).toInt ∧ (p0 : Int32).toInt < (n_nodes : Int32).toInt))) ∧ (Hide ((r : Int32).toInt = 0 → ¬ (0 ≤ (p0 : Int32).toInt ∧ (p0 : Int32).toInt < (n_nodes : Int32).toInt))))) 0 0 (fun _ => False) := by
  refine Met.ofW (cc := cX2_has) (maxL := 2) (ret := (some .boolean)) (by decide) rfl ?_
  intro p e s m args below meth c s₁ B hml hv
  obtain ⟨ha, hP, hK⟩ := hv
  have hx := B.exec
  have hb := B.bytes
  have hr := B.returns
  have hts0 := atoms_spec (ws := (.code yX2_has cX2_has 2 (some .boolean) :: wsL_law)) B.pre
  have hts : ∀ w ∈ wsL_law, w.before args s = true := fun w h => hts0 w (List.mem_cons_of_mem _ h)
  have hown : s.vm.findClass RX2 = some m.cls := findClass_of_methodNamed B.named
  have hlocks := B.notSynchronized
  have hP : va_P D vwCl [(wO2 n n_nodes n_kind n_pay n_name n_ways n_held n_targets n_weights)] s.heap := hP
  refine W.eq (g2 := entryFrame m ([.ref n, .int p0] : List Value).toArray 2) (by rw [ha]) ?_
  have hl := lv_entry ([.ref n, .int p0]) (n := 2) (Nat.le_of_ble_eq_true rfl)
  rw [lg_entry_eq]
  generalize (lg_sl ([.ref n, .int p0]) ++ List.replicate (2 - (lg_sl ([.ref n, .int p0])).length) Slot.unset).toArray = ls at hl ⊢
  have hl : lv_has ls 2 [(0, .ref n), (1, .int p0)] := hl
  refine lv_iload_n hx hb dX2_has_0 rfl (lv_at hl 1 rfl) ?_
  refine lv_if_lt (tgt := 16) hx hb dX2_has_1 (by decide) (fun c_59474 => ?_) (fun c_59474 => ?_)
  · skip
    have kk_0 := tk_0
    have c_59474_i := Int32.lt_iff_toInt_lt.mp c_59474
    have h_59475 : (-2147483648) ≤ (p0 : Int32).toInt ∧ (p0 : Int32).toInt ≤ (-1) := nr_lt_l (tr_any p0) (⟨by decide, by decide⟩ : 0 ≤ (0 : Int32).toInt ∧ (0 : Int32).toInt ≤ 0) c_59474_i (by decide) (by decide)
    refine lv_iconst (v := 0) hx hb dX2_has_16 (by decide) ?_
    exact W.zret (v := 0) hx hb hr (by decide) (fun t ht hW => ⟨0, rfl, ⟨(⟨by decide, by decide⟩ : 0 ≤ (0 : Int32).toInt ∧ (0 : Int32).toInt ≤ 1), (fun h9 => (by have z_0 := tk_0; have z_1 := tk_1; omega)), (fun h9 => (by have z_0 := tk_0; have z_1 := tk_1; omega))⟩, ht⟩) (fun _ h => nomatch h) dX2_has_17
  · skip
    have kk_0 := tk_0
    have c_59474_i := Int32.le_iff_toInt_le.mp (Int32.not_lt.mp c_59474)
    have h_59476 : 0 ≤ (p0 : Int32).toInt ∧ (p0 : Int32).toInt ≤ 2147483647 := nr_le_r (⟨by decide, by decide⟩ : 0 ≤ (0 : Int32).toInt ∧ (0 : Int32).toInt ≤ 0) (tr_any p0) c_59474_i (by decide) (by decide)
    refine lv_iload_n hx hb dX2_has_4 rfl (lv_at hl 1 rfl) ?_
    refine lv_aload_n hx hb dX2_has_5 rfl (lv_at hl 0 rfl) ?_
    refine va_get (D := D) (ci := 2) (v := .int n_nodes) (C := RX2) (T := TX2) (N := 8) hx hb hts inlX2 hown hK hP 0 rfl rfl 0 (by decide) (hts (Cond.fieldLink RX2 33 "ChanceRings$Net" "nodes" "I") qw_313) (fun _ h9 => h9) rfl dX2_has_6 ?_
    refine lv_icmp_ge (tgt := 16) hx hb dX2_has_9 (by decide) (fun c_59477 => ?_) (fun c_59477 => ?_)
    · skip
      have c_59477_i := Int32.le_iff_toInt_le.mp c_59477
      refine lv_iconst (v := 0) hx hb dX2_has_16 (by decide) ?_
      exact W.zret (v := 0) hx hb hr (by decide) (fun t ht hW => ⟨0, rfl, ⟨(⟨by decide, by decide⟩ : 0 ≤ (0 : Int32).toInt ∧ (0 : Int32).toInt ≤ 1), (fun h9 => (by have z_0 := tk_0; have z_1 := tk_1; (first | (clear h_n_nodes c_59474_i h_59476 c_59477_i; omega) | omega))), (fun h9 => (by have z_0 := tk_0; have z_1 := tk_1; (first | (clear h_n_nodes c_59474_i h_59476 c_59477_i; omega) | omega)))⟩, ht⟩) (fun _ h => nomatch h) dX2_has_17
    · skip
      have c_59477_i := Int32.lt_iff_toInt_lt.mp (Int32.not_le.mp c_59477)
      have h_59478 : 0 ≤ (p0 : Int32).toInt ∧ (p0 : Int32).toInt ≤ 11 := nr_lt_l h_59476 h_n_nodes c_59477_i (by decide) (by decide)
      have h_59479 : 1 ≤ (n_nodes : Int32).toInt ∧ (n_nodes : Int32).toInt ≤ 12 := nr_lt_r h_59476 h_n_nodes c_59477_i (by decide) (by decide)
      refine lv_iconst (v := 1) hx hb dX2_has_12 (by decide) ?_
      refine lv_goto (tgt := 17) hx hb dX2_has_13 (by decide) ?_
      exact W.zret (v := 1) hx hb hr (by decide) (fun t ht hW => ⟨1, rfl, ⟨(⟨by decide, by decide⟩ : 0 ≤ (1 : Int32).toInt ∧ (1 : Int32).toInt ≤ 1), (fun h9 => (by have z_0 := tk_0; have z_1 := tk_1; (first | (clear h_n_nodes c_59474_i h_59476 c_59477_i h_59478 h_59479; omega) | omega))), (fun h9 => (by have z_0 := tk_0; have z_1 := tk_1; (first | (clear h_n_nodes c_59474_i h_59476 c_59477_i h_59478 h_59479; omega) | omega)))⟩, ht⟩) (fun _ h => nomatch h) dX2_has_17
set_option maxHeartbeats 4000000 in
set_option maxRecDepth 100000 in
theorem c_X2_hasWayN (l : Launch) (D : va_G) (g : Nat → ClassId) (n : Nat) (p0 : Int32) (p1 : Int32) (n_nodes : Int32) (n_kind : Nat) (n_pay : Nat) (n_name : Nat) (n_ways : Nat) (n_held : Nat) (n_targets : Nat) (n_weights : Nat) (n_fways : Nat → Int32) (h_n_nodes : 0 ≤ (n_nodes : Int32).toInt ∧ (n_nodes : Int32).toInt ≤ 12) (h_n_fways : ∀ j : Nat, 0 ≤ (n_fways j).toInt ∧ (n_fways j).toInt ≤ 3) : Met l yX2_hasWay (.code yX2_hasWay cX2_hasWay 3 (some .boolean) :: wsL_law) ({ frames := 1, cells := 0, slots := 0, locals := 21 }) (va_Pc [.ref n, .int p0, .int p1] (fun U => va_P D vwCl [(wO2 n n_nodes n_kind n_pay n_name n_ways n_held n_targets n_weights), (wI g n_ways 0 12 n_fways)] U.heap ∧ va_K D vwCl (TY g) U)) (vp_Si (fun r => (0 ≤ (r : Int32).toInt ∧ (r : Int32).toInt ≤ 1) ∧ (Hide (¬ (r : Int32).toInt = 0 → (0 ≤ (p0 : Int32).toInt ∧ (p0 : Int32).toInt < (n_nodes : Int32).toInt) ∧ 0 ≤ (p1 : Int32).toInt ∧ (p1 : Int32).toInt < (n_fways (p0 : Int32).toInt.toNat).toInt)) ∧ (Hide ((r : Int32).toInt = 0 → ¬ ((0 ≤ (p0 : Int32).toInt ∧ (p0 : Int32).toInt < (n_nodes : Int32).toInt) ∧ 0 ≤ (p1 : Int32).toInt ∧ (p1 : Int32).toInt < (n_fways (p0 : Int32).toInt.toNat).toInt))))) 0 0 (fun _ => False) := by
  refine Met.ofW (cc := cX2_hasWay) (maxL := 3) (ret := (some .boolean)) (by decide) rfl ?_
  intro p e s m args below meth c s₁ B hml hv
  obtain ⟨ha, hP, hK⟩ := hv
  have hx := B.exec
  have hb := B.bytes
  have hr := B.returns
  have hts0 := atoms_spec (ws := (.code yX2_hasWay cX2_hasWay 3 (some .boolean) :: wsL_law)) B.pre
  have hts : ∀ w ∈ wsL_law, w.before args s = true := fun w h => hts0 w (List.mem_cons_of_mem _ h)
  have hown : s.vm.findClass RX2 = some m.cls := findClass_of_methodNamed B.named
  have hlocks := B.notSynchronized
  have hP : va_P D vwCl [(wO2 n n_nodes n_kind n_pay n_name n_ways n_held n_targets n_weights), (wI g n_ways 0 12 n_fways)] s.heap := hP
  refine W.eq (g2 := entryFrame m ([.ref n, .int p0, .int p1] : List Value).toArray 3) (by rw [ha]) ?_
  have hl := lv_entry ([.ref n, .int p0, .int p1]) (n := 3) (Nat.le_of_ble_eq_true rfl)
  rw [lg_entry_eq]
  generalize (lg_sl ([.ref n, .int p0, .int p1]) ++ List.replicate (3 - (lg_sl ([.ref n, .int p0, .int p1])).length) Slot.unset).toArray = ls at hl ⊢
  have hl : lv_has ls 3 [(0, .ref n), (1, .int p0), (2, .int p1)] := hl
  have hwy_9 := h_n_fways (p0 : Int32).toInt.toNat
  refine lv_aload_n hx hb dX2_hasWay_0 rfl (lv_at hl 0 rfl) ?_
  refine lv_iload_n hx hb dX2_hasWay_1 rfl (lv_at hl 1 rfl) ?_
  have hPc := hP.sub (ws' := [(wO2 n n_nodes n_kind n_pay n_name n_ways n_held n_targets n_weights)]) [0] rfl
  refine vp_callSi (va_Run.run (va_runV (As := [.int p0]) (rest := []) ⟨hx, hb, hml, hown, hts⟩ (c_X2_hasN l D g n p0 n_nodes n_kind n_pay n_name n_ways n_held n_targets n_weights (tr_w h_n_nodes (by decide) (by decide))) (cwV 1 hts (tz_gV qw_328 qw_329 qw_330 qw_322 qw_331) rfl rfl rfl (by decide +kernel) ⟨Nat.le_of_ble_eq_true rfl, Nat.le_of_ble_eq_true rfl⟩) ⟨tz_blS, va_recv hK hPc (ci := 2) (q0 := 0) rfl rfl, tz_preS hPc hK⟩ rfl rfl hl.1 rfl (lv_room (Nat.le_of_ble_eq_true rfl)) dX2_hasWay_2 ⟨Nat.le_of_ble_eq_true rfl, Nat.le_of_ble_eq_true rfl⟩)) (fun r_59480 hw => ?_)
  have hw_59481 : 0 ≤ (r_59480 : Int32).toInt ∧ (r_59480 : Int32).toInt ≤ 1 := hw.1
  have hw_59481_p0 : Hide (¬ (r_59480 : Int32).toInt = 0 → (0 ≤ (p0 : Int32).toInt ∧ (p0 : Int32).toInt < (n_nodes : Int32).toInt)) := hw.2.1
  have hw_59481_p1 : Hide ((r_59480 : Int32).toInt = 0 → ¬ (0 ≤ (p0 : Int32).toInt ∧ (p0 : Int32).toInt < (n_nodes : Int32).toInt)) := hw.2.2
  refine lv_if_eq (tgt := 26) hx hb dX2_hasWay_5 (by decide) (fun c_59482 => ?_) (fun c_59482 => ?_)
  · skip
    have kk_0 := tk_0
    have c_59482_i : (r_59480 : Int32).toInt = (0 : Int32).toInt := congrArg Int32.toInt c_59482
    have hw_59481_p1_u := (hw_59481_p1).get (c_59482_i.trans tk_0)
    have h_59483 : 0 ≤ (r_59480 : Int32).toInt ∧ (r_59480 : Int32).toInt ≤ 0 := nr_eq_l hw_59481 (⟨by decide, by decide⟩ : 0 ≤ (0 : Int32).toInt ∧ (0 : Int32).toInt ≤ 0) c_59482_i (by decide) (by decide)
    refine lv_iconst (v := 0) hx hb dX2_hasWay_26 (by decide) ?_
    exact W.zret (v := 0) hx hb hr (by decide) (fun t ht hW => ⟨0, rfl, ⟨(⟨by decide, by decide⟩ : 0 ≤ (0 : Int32).toInt ∧ (0 : Int32).toInt ≤ 1), (fun h9 => (by have z_0 := tk_0; have z_1 := tk_1; (first | (clear h_n_nodes hw_59481 c_59482_i h_59483; omega) | omega))), (fun h9 => (by have z_0 := tk_0; have z_1 := tk_1; (first | (clear h_n_nodes hw_59481 c_59482_i h_59483; omega) | omega)))⟩, ht⟩) (fun _ h => nomatch h) dX2_hasWay_27
  · skip
    have kk_0 := tk_0
    have c_59482_i : ¬ (r_59480 : Int32).toInt = (0 : Int32).toInt := (fun q => c_59482 (Int32.toInt_inj.mp q))
    have hw_59481_p0_u := (hw_59481_p0).get (fun q => c_59482_i (q.trans tk_0.symm))
    have h_59484 : 0 ≤ (p0 : Int32).toInt ∧ (p0 : Int32).toInt ≤ 11 := by omega
    have h_59485 : 1 ≤ (r_59480 : Int32).toInt ∧ (r_59480 : Int32).toInt ≤ 1 := nr_ne_l hw_59481 (⟨by decide, by decide⟩ : 0 ≤ (0 : Int32).toInt ∧ (0 : Int32).toInt ≤ 0) c_59482_i (by decide) (by decide)
    refine lv_iload_n hx hb dX2_hasWay_8 rfl (lv_at hl 2 rfl) ?_
    refine lv_if_lt (tgt := 26) hx hb dX2_hasWay_9 (by decide) (fun c_59486 => ?_) (fun c_59486 => ?_)
    · skip
      have c_59486_i := Int32.lt_iff_toInt_lt.mp c_59486
      have h_59487 : (-2147483648) ≤ (p1 : Int32).toInt ∧ (p1 : Int32).toInt ≤ (-1) := nr_lt_l (tr_any p1) (⟨by decide, by decide⟩ : 0 ≤ (0 : Int32).toInt ∧ (0 : Int32).toInt ≤ 0) c_59486_i (by decide) (by decide)
      refine lv_iconst (v := 0) hx hb dX2_hasWay_26 (by decide) ?_
      exact W.zret (v := 0) hx hb hr (by decide) (fun t ht hW => ⟨0, rfl, ⟨(⟨by decide, by decide⟩ : 0 ≤ (0 : Int32).toInt ∧ (0 : Int32).toInt ≤ 1), (fun h9 => (by have z_0 := tk_0; have z_1 := tk_1; (first | (clear h_n_nodes hw_59481 c_59482_i h_59484 h_59485 c_59486_i h_59487; omega) | omega))), (fun h9 => (by have z_0 := tk_0; have z_1 := tk_1; (first | (clear h_n_nodes hw_59481 c_59482_i h_59484 h_59485 c_59486_i h_59487; omega) | omega)))⟩, ht⟩) (fun _ h => nomatch h) dX2_hasWay_27
    · skip
      have c_59486_i := Int32.le_iff_toInt_le.mp (Int32.not_lt.mp c_59486)
      have h_59488 : 0 ≤ (p1 : Int32).toInt ∧ (p1 : Int32).toInt ≤ 2147483647 := nr_le_r (⟨by decide, by decide⟩ : 0 ≤ (0 : Int32).toInt ∧ (0 : Int32).toInt ≤ 0) (tr_any p1) c_59486_i (by decide) (by decide)
      refine lv_iload_n hx hb dX2_hasWay_12 rfl (lv_at hl 2 rfl) ?_
      refine lv_aload_n hx hb dX2_hasWay_13 rfl (lv_at hl 0 rfl) ?_
      refine va_get (D := D) (ci := 2) (v := .ref n_ways) (C := RX2) (T := TX2) (N := 8) hx hb hts inlX2 hown hK hP 0 rfl rfl 4 (by decide) (hts (Cond.fieldLink RX2 21 "ChanceRings$Net" "ways" "[I") qw_318) (fun _ h9 => h9) rfl dX2_hasWay_14 ?_
      refine lv_iload_n hx hb dX2_hasWay_17 rfl (lv_at hl 1 rfl) ?_
      refine va_iald hx hb hK hP 1 0 rfl rfl (tr_in h_59484 (by decide) (by decide)) dX2_hasWay_18 ?_
      refine lv_topi (fun v_59489 v_59489_e => ?_)
      have h_v_59489 : 0 ≤ (v_59489 : Int32).toInt ∧ (v_59489 : Int32).toInt ≤ 3 := by rw [v_59489_e]; exact h_n_fways _
      have g_v_59489 : v_59489 = n_fways (p0.toInt.toNat) := v_59489_e.trans (congrArg n_fways rfl)
      have gi_v_59489 := congrArg Int32.toInt g_v_59489
      refine lv_icmp_ge (tgt := 26) hx hb dX2_hasWay_19 (by decide) (fun c_59490 => ?_) (fun c_59490 => ?_)
      · skip
        have c_59490_i := Int32.le_iff_toInt_le.mp c_59490
        refine lv_iconst (v := 0) hx hb dX2_hasWay_26 (by decide) ?_
        exact W.zret (v := 0) hx hb hr (by decide) (fun t ht hW => ⟨0, rfl, ⟨(⟨by decide, by decide⟩ : 0 ≤ (0 : Int32).toInt ∧ (0 : Int32).toInt ≤ 1), (fun h9 => (by have z_0 := tk_0; have z_1 := tk_1; (first | (clear h_n_nodes hw_59481 c_59482_i h_59484 h_59485 c_59486_i h_59488 h_v_59489 g_v_59489 gi_v_59489 c_59490_i; omega) | omega))), (fun h9 => (by have z_0 := tk_0; have z_1 := tk_1; (first | (clear h_n_nodes hw_59481 c_59482_i h_59484 h_59485 c_59486_i h_59488 h_v_59489 g_v_59489 gi_v_59489 c_59490_i; omega) | omega)))⟩, ht⟩) (fun _ h => nomatch h) dX2_hasWay_27
      · skip
        have c_59490_i := Int32.lt_iff_toInt_lt.mp (Int32.not_le.mp c_59490)
        have h_59491 : 0 ≤ (p1 : Int32).toInt ∧ (p1 : Int32).toInt ≤ 2 := nr_lt_l h_59488 h_v_59489 c_59490_i (by decide) (by decide)
        have h_59492 : 1 ≤ (v_59489 : Int32).toInt ∧ (v_59489 : Int32).toInt ≤ 3 := nr_lt_r h_59488 h_v_59489 c_59490_i (by decide) (by decide)
        refine lv_iconst (v := 1) hx hb dX2_hasWay_22 (by decide) ?_
        refine lv_goto (tgt := 27) hx hb dX2_hasWay_23 (by decide) ?_
        exact W.zret (v := 1) hx hb hr (by decide) (fun t ht hW => ⟨1, rfl, ⟨(⟨by decide, by decide⟩ : 0 ≤ (1 : Int32).toInt ∧ (1 : Int32).toInt ≤ 1), (fun h9 => (by have z_0 := tk_0; have z_1 := tk_1; (first | (clear h_n_nodes hw_59481 c_59482_i h_59484 h_59485 c_59486_i h_59488 h_v_59489 g_v_59489 gi_v_59489 c_59490_i h_59491 h_59492; omega) | omega))), (fun h9 => (by have z_0 := tk_0; have z_1 := tk_1; (first | (clear h_n_nodes hw_59481 c_59482_i h_59484 h_59485 c_59486_i h_59488 h_v_59489 g_v_59489 gi_v_59489 c_59490_i h_59491 h_59492; omega) | omega)))⟩, ht⟩) (fun _ h => nomatch h) dX2_hasWay_27
set_option maxHeartbeats 4000000 in
set_option maxRecDepth 100000 in
theorem c_X2_isChooserN (l : Launch) (D : va_G) (g : Nat → ClassId) (n : Nat) (p0 : Int32) (n_nodes : Int32) (n_kind : Nat) (n_pay : Nat) (n_name : Nat) (n_ways : Nat) (n_held : Nat) (n_targets : Nat) (n_weights : Nat) (n_fkind : Nat → Int32) (h_n_nodes : 0 ≤ (n_nodes : Int32).toInt ∧ (n_nodes : Int32).toInt ≤ 12) (h_n_fkind : ∀ j : Nat, 0 ≤ (n_fkind j).toInt ∧ (n_fkind j).toInt ≤ 3) : Met l yX2_isChooser (.code yX2_isChooser cX2_isChooser 2 (some .boolean) :: wsL_law) ({ frames := 1, cells := 0, slots := 0, locals := 21 }) (va_Pc [.ref n, .int p0] (fun U => va_P D vwCl [(wO2 n n_nodes n_kind n_pay n_name n_ways n_held n_targets n_weights), (wI g n_kind 0 12 n_fkind)] U.heap ∧ va_K D vwCl (TY g) U)) (vp_Si (fun r => (0 ≤ (r : Int32).toInt ∧ (r : Int32).toInt ≤ 1) ∧ (Hide (¬ (r : Int32).toInt = 0 → (0 ≤ (p0 : Int32).toInt ∧ (p0 : Int32).toInt < (n_nodes : Int32).toInt) ∧ ((n_fkind (p0 : Int32).toInt.toNat).toInt = 1 ∨ (n_fkind (p0 : Int32).toInt.toNat).toInt = 2))) ∧ (Hide ((r : Int32).toInt = 0 → ¬ ((0 ≤ (p0 : Int32).toInt ∧ (p0 : Int32).toInt < (n_nodes : Int32).toInt) ∧ ((n_fkind (p0 : Int32).toInt.toNat).toInt = 1 ∨ (n_fkind (p0 : Int32).toInt.toNat).toInt = 2)))))) 0 0 (fun _ => False) := by
  refine Met.ofW (cc := cX2_isChooser) (maxL := 2) (ret := (some .boolean)) (by decide) rfl ?_
  intro p e s m args below meth c s₁ B hml hv
  obtain ⟨ha, hP, hK⟩ := hv
  have hx := B.exec
  have hb := B.bytes
  have hr := B.returns
  have hts0 := atoms_spec (ws := (.code yX2_isChooser cX2_isChooser 2 (some .boolean) :: wsL_law)) B.pre
  have hts : ∀ w ∈ wsL_law, w.before args s = true := fun w h => hts0 w (List.mem_cons_of_mem _ h)
  have hown : s.vm.findClass RX2 = some m.cls := findClass_of_methodNamed B.named
  have hlocks := B.notSynchronized
  have hP : va_P D vwCl [(wO2 n n_nodes n_kind n_pay n_name n_ways n_held n_targets n_weights), (wI g n_kind 0 12 n_fkind)] s.heap := hP
  refine W.eq (g2 := entryFrame m ([.ref n, .int p0] : List Value).toArray 2) (by rw [ha]) ?_
  have hl := lv_entry ([.ref n, .int p0]) (n := 2) (Nat.le_of_ble_eq_true rfl)
  rw [lg_entry_eq]
  generalize (lg_sl ([.ref n, .int p0]) ++ List.replicate (2 - (lg_sl ([.ref n, .int p0])).length) Slot.unset).toArray = ls at hl ⊢
  have hl : lv_has ls 2 [(0, .ref n), (1, .int p0)] := hl
  refine lv_aload_n hx hb dX2_isChooser_0 rfl (lv_at hl 0 rfl) ?_
  refine lv_iload_n hx hb dX2_isChooser_1 rfl (lv_at hl 1 rfl) ?_
  have hPc := hP.sub (ws' := [(wO2 n n_nodes n_kind n_pay n_name n_ways n_held n_targets n_weights)]) [0] rfl
  refine vp_callSi (va_Run.run (va_runV (As := [.int p0]) (rest := []) ⟨hx, hb, hml, hown, hts⟩ (c_X2_hasN l D g n p0 n_nodes n_kind n_pay n_name n_ways n_held n_targets n_weights (tr_w h_n_nodes (by decide) (by decide))) (cwV 1 hts (tz_gV qw_328 qw_329 qw_330 qw_322 qw_331) rfl rfl rfl (by decide +kernel) ⟨Nat.le_of_ble_eq_true rfl, Nat.le_of_ble_eq_true rfl⟩) ⟨tz_blS, va_recv hK hPc (ci := 2) (q0 := 0) rfl rfl, tz_preS hPc hK⟩ rfl rfl hl.1 rfl (lv_room (Nat.le_of_ble_eq_true rfl)) dX2_isChooser_2 ⟨Nat.le_of_ble_eq_true rfl, Nat.le_of_ble_eq_true rfl⟩)) (fun r_59493 hw => ?_)
  have hw_59494 : 0 ≤ (r_59493 : Int32).toInt ∧ (r_59493 : Int32).toInt ≤ 1 := hw.1
  have hw_59494_p0 : Hide (¬ (r_59493 : Int32).toInt = 0 → (0 ≤ (p0 : Int32).toInt ∧ (p0 : Int32).toInt < (n_nodes : Int32).toInt)) := hw.2.1
  have hw_59494_p1 : Hide ((r_59493 : Int32).toInt = 0 → ¬ (0 ≤ (p0 : Int32).toInt ∧ (p0 : Int32).toInt < (n_nodes : Int32).toInt)) := hw.2.2
  refine lv_if_eq (tgt := 32) hx hb dX2_isChooser_5 (by decide) (fun c_59495 => ?_) (fun c_59495 => ?_)
  · skip
    have kk_0 := tk_0
    have c_59495_i : (r_59493 : Int32).toInt = (0 : Int32).toInt := congrArg Int32.toInt c_59495
    have hw_59494_p1_u := (hw_59494_p1).get (c_59495_i.trans tk_0)
    have h_59496 : 0 ≤ (r_59493 : Int32).toInt ∧ (r_59493 : Int32).toInt ≤ 0 := nr_eq_l hw_59494 (⟨by decide, by decide⟩ : 0 ≤ (0 : Int32).toInt ∧ (0 : Int32).toInt ≤ 0) c_59495_i (by decide) (by decide)
    refine lv_iconst (v := 0) hx hb dX2_isChooser_32 (by decide) ?_
    exact W.zret (v := 0) hx hb hr (by decide) (fun t ht hW => ⟨0, rfl, ⟨(⟨by decide, by decide⟩ : 0 ≤ (0 : Int32).toInt ∧ (0 : Int32).toInt ≤ 1), (fun h9 => (by have z_0 := tk_0; have z_1 := tk_1; (first | (clear h_n_nodes hw_59494 c_59495_i h_59496; omega) | omega))), (fun h9 => (by have z_0 := tk_0; have z_1 := tk_1; (first | (clear h_n_nodes hw_59494 c_59495_i h_59496; omega) | omega)))⟩, ht⟩) (fun _ h => nomatch h) dX2_isChooser_33
  · skip
    have kk_0 := tk_0
    have c_59495_i : ¬ (r_59493 : Int32).toInt = (0 : Int32).toInt := (fun q => c_59495 (Int32.toInt_inj.mp q))
    have hw_59494_p0_u := (hw_59494_p0).get (fun q => c_59495_i (q.trans tk_0.symm))
    have h_59497 : 0 ≤ (p0 : Int32).toInt ∧ (p0 : Int32).toInt ≤ 11 := by omega
    have h_59498 : 1 ≤ (r_59493 : Int32).toInt ∧ (r_59493 : Int32).toInt ≤ 1 := nr_ne_l hw_59494 (⟨by decide, by decide⟩ : 0 ≤ (0 : Int32).toInt ∧ (0 : Int32).toInt ≤ 0) c_59495_i (by decide) (by decide)
    refine lv_aload_n hx hb dX2_isChooser_8 rfl (lv_at hl 0 rfl) ?_
    refine va_get (D := D) (ci := 2) (v := .ref n_kind) (C := RX2) (T := TX2) (N := 8) hx hb hts inlX2 hown hK hP 0 rfl rfl 1 (by decide) (hts (Cond.fieldLink RX2 9 "ChanceRings$Net" "kind" "[I") qw_316) (fun _ h9 => h9) rfl dX2_isChooser_9 ?_
    refine lv_iload_n hx hb dX2_isChooser_12 rfl (lv_at hl 1 rfl) ?_
    refine va_iald hx hb hK hP 1 0 rfl rfl (tr_in h_59497 (by decide) (by decide)) dX2_isChooser_13 ?_
    refine lv_topi (fun v_59499 v_59499_e => ?_)
    have h_v_59499 : 0 ≤ (v_59499 : Int32).toInt ∧ (v_59499 : Int32).toInt ≤ 3 := by rw [v_59499_e]; exact h_n_fkind _
    have g_v_59499 : v_59499 = n_fkind (p0.toInt.toNat) := v_59499_e.trans (congrArg n_fkind rfl)
    have gi_v_59499 := congrArg Int32.toInt g_v_59499
    refine lv_iconst (v := 1) hx hb dX2_isChooser_14 (by decide) ?_
    refine lv_icmp_eq (tgt := 28) hx hb dX2_isChooser_15 (by decide) (fun c_59500 => ?_) (fun c_59500 => ?_)
    · skip
      have kk_1 := tk_1
      have c_59500_i : (v_59499 : Int32).toInt = (1 : Int32).toInt := congrArg Int32.toInt c_59500
      have h_59501 : 1 ≤ (v_59499 : Int32).toInt ∧ (v_59499 : Int32).toInt ≤ 1 := nr_eq_l h_v_59499 (⟨by decide, by decide⟩ : 1 ≤ (1 : Int32).toInt ∧ (1 : Int32).toInt ≤ 1) c_59500_i (by decide) (by decide)
      refine lv_iconst (v := 1) hx hb dX2_isChooser_28 (by decide) ?_
      refine lv_goto (tgt := 33) hx hb dX2_isChooser_29 (by decide) ?_
      exact W.zret (v := 1) hx hb hr (by decide) (fun t ht hW => ⟨1, rfl, ⟨(⟨by decide, by decide⟩ : 0 ≤ (1 : Int32).toInt ∧ (1 : Int32).toInt ≤ 1), (fun h9 => (by have z_0 := tk_0; have z_1 := tk_1; (first | (clear h_n_nodes hw_59494 c_59495_i h_59497 h_59498 h_v_59499 g_v_59499 gi_v_59499 c_59500_i h_59501; omega) | omega))), (fun h9 => (by have z_0 := tk_0; have z_1 := tk_1; (first | (clear h_n_nodes hw_59494 c_59495_i h_59497 h_59498 h_v_59499 g_v_59499 gi_v_59499 c_59500_i h_59501; omega) | omega)))⟩, ht⟩) (fun _ h => nomatch h) dX2_isChooser_33
    · skip
      have kk_1 := tk_1
      have c_59500_i : ¬ (v_59499 : Int32).toInt = (1 : Int32).toInt := (fun q => c_59500 (Int32.toInt_inj.mp q))
      refine lv_aload_n hx hb dX2_isChooser_18 rfl (lv_at hl 0 rfl) ?_
      refine va_get (D := D) (ci := 2) (v := .ref n_kind) (C := RX2) (T := TX2) (N := 8) hx hb hts inlX2 hown hK hP 0 rfl rfl 1 (by decide) (hts (Cond.fieldLink RX2 9 "ChanceRings$Net" "kind" "[I") qw_316) (fun _ h9 => h9) rfl dX2_isChooser_19 ?_
      refine lv_iload_n hx hb dX2_isChooser_22 rfl (lv_at hl 1 rfl) ?_
      refine va_iald hx hb hK hP 1 0 rfl rfl (tr_in h_59497 (by decide) (by decide)) dX2_isChooser_23 ?_
      refine tz_i (y := v_59499) ((congrArg n_fkind rfl).trans g_v_59499.symm) ?_
      refine lv_iconst (v := 2) hx hb dX2_isChooser_24 (by decide) ?_
      refine lv_icmp_ne (tgt := 32) hx hb dX2_isChooser_25 (by decide) (fun c_59502 => ?_) (fun c_59502 => ?_)
      · skip
        have kk_2 := tk_2
        have c_59502_i : ¬ (v_59499 : Int32).toInt = (2 : Int32).toInt := (fun q => c_59502 (Int32.toInt_inj.mp q))
        refine lv_iconst (v := 0) hx hb dX2_isChooser_32 (by decide) ?_
        exact W.zret (v := 0) hx hb hr (by decide) (fun t ht hW => ⟨0, rfl, ⟨(⟨by decide, by decide⟩ : 0 ≤ (0 : Int32).toInt ∧ (0 : Int32).toInt ≤ 1), (fun h9 => (by have z_0 := tk_0; have z_1 := tk_1; (first | (clear h_n_nodes hw_59494 c_59495_i h_59497 h_59498 h_v_59499 g_v_59499 gi_v_59499 c_59500_i c_59502_i; omega) | omega))), (fun h9 => (by have z_0 := tk_0; have z_1 := tk_1; (first | (clear h_n_nodes hw_59494 c_59495_i h_59497 h_59498 h_v_59499 g_v_59499 gi_v_59499 c_59500_i c_59502_i; omega) | omega)))⟩, ht⟩) (fun _ h => nomatch h) dX2_isChooser_33
      · skip
        have kk_2 := tk_2
        have c_59502_i : (v_59499 : Int32).toInt = (2 : Int32).toInt := congrArg Int32.toInt c_59502
        have h_59503 : 2 ≤ (v_59499 : Int32).toInt ∧ (v_59499 : Int32).toInt ≤ 2 := nr_eq_l h_v_59499 (⟨by decide, by decide⟩ : 2 ≤ (2 : Int32).toInt ∧ (2 : Int32).toInt ≤ 2) c_59502_i (by decide) (by decide)
        refine lv_iconst (v := 1) hx hb dX2_isChooser_28 (by decide) ?_
        refine lv_goto (tgt := 33) hx hb dX2_isChooser_29 (by decide) ?_
        exact W.zret (v := 1) hx hb hr (by decide) (fun t ht hW => ⟨1, rfl, ⟨(⟨by decide, by decide⟩ : 0 ≤ (1 : Int32).toInt ∧ (1 : Int32).toInt ≤ 1), (fun h9 => (by have z_0 := tk_0; have z_1 := tk_1; (first | (clear h_n_nodes hw_59494 c_59495_i h_59497 h_59498 h_v_59499 g_v_59499 gi_v_59499 c_59500_i c_59502_i h_59503; omega) | omega))), (fun h9 => (by have z_0 := tk_0; have z_1 := tk_1; (first | (clear h_n_nodes hw_59494 c_59495_i h_59497 h_59498 h_v_59499 g_v_59499 gi_v_59499 c_59500_i c_59502_i h_59503; omega) | omega)))⟩, ht⟩) (fun _ h => nomatch h) dX2_isChooser_33
set_option maxHeartbeats 4000000 in
set_option maxRecDepth 100000 in
theorem c_X2_weightN (l : Launch) (D : va_G) (g : Nat → ClassId) (n : Nat) (p0 : Int32) (p1 : Int32) (n_nodes : Int32) (n_kind : Nat) (n_pay : Nat) (n_name : Nat) (n_ways : Nat) (n_held : Nat) (n_targets : Nat) (n_weights : Nat) (n_fweights : Nat → Int32) (h_p0 : 0 ≤ (p0 : Int32).toInt ∧ (p0 : Int32).toInt ≤ 11) (h_p1 : 0 ≤ (p1 : Int32).toInt ∧ (p1 : Int32).toInt ≤ 2) (h_n_nodes : 0 ≤ (n_nodes : Int32).toInt ∧ (n_nodes : Int32).toInt ≤ 12) : Met l yX2_weight (.code yX2_weight cX2_weight 3 (some .int) :: wsL_law) ({ frames := 0, cells := 0, slots := 0, locals := 0 }) (va_Pc [.ref n, .int p0, .int p1] (fun U => va_P D vwCl [(wO2 n n_nodes n_kind n_pay n_name n_ways n_held n_targets n_weights), (wI g n_weights 0 36 n_fweights)] U.heap ∧ va_K D vwCl (TY g) U)) (vp_Si (fun r => (True) ∧ ((r : Int32).toInt = (n_fweights (3 * (p0 : Int32).toInt.toNat + (p1 : Int32).toInt.toNat)).toInt))) 0 0 (fun _ => False) := by
  refine Met.ofW (cc := cX2_weight) (maxL := 3) (ret := (some .int)) (by decide) rfl ?_
  intro p e s m args below meth c s₁ B hml hv
  obtain ⟨ha, hP, hK⟩ := hv
  have hx := B.exec
  have hb := B.bytes
  have hr := B.returns
  have hts0 := atoms_spec (ws := (.code yX2_weight cX2_weight 3 (some .int) :: wsL_law)) B.pre
  have hts : ∀ w ∈ wsL_law, w.before args s = true := fun w h => hts0 w (List.mem_cons_of_mem _ h)
  have hown : s.vm.findClass RX2 = some m.cls := findClass_of_methodNamed B.named
  have hlocks := B.notSynchronized
  have hP : va_P D vwCl [(wO2 n n_nodes n_kind n_pay n_name n_ways n_held n_targets n_weights), (wI g n_weights 0 36 n_fweights)] s.heap := hP
  refine W.eq (g2 := entryFrame m ([.ref n, .int p0, .int p1] : List Value).toArray 3) (by rw [ha]) ?_
  have hl := lv_entry ([.ref n, .int p0, .int p1]) (n := 3) (Nat.le_of_ble_eq_true rfl)
  rw [lg_entry_eq]
  generalize (lg_sl ([.ref n, .int p0, .int p1]) ++ List.replicate (3 - (lg_sl ([.ref n, .int p0, .int p1])).length) Slot.unset).toArray = ls at hl ⊢
  have hl : lv_has ls 3 [(0, .ref n), (1, .int p0), (2, .int p1)] := hl
  refine lv_aload_n hx hb dX2_weight_0 rfl (lv_at hl 0 rfl) ?_
  refine va_get (D := D) (ci := 2) (v := .ref n_weights) (C := RX2) (T := TX2) (N := 8) hx hb hts inlX2 hown hK hP 0 rfl rfl 7 (by decide) (hts (Cond.fieldLink RX2 30 "ChanceRings$Net" "weights" "[I") qw_332) (fun _ h9 => h9) rfl dX2_weight_1 ?_
  refine lv_iload_n hx hb dX2_weight_4 rfl (lv_at hl 1 rfl) ?_
  refine lv_iconst (v := 3) hx hb dX2_weight_5 (by decide) ?_
  refine lv_imul hx hb dX2_weight_6 ?_
  refine lv_topi (fun v_59504 v_59504_e => ?_)
  have h_v_59504 : 0 ≤ (v_59504 : Int32).toInt ∧ (v_59504 : Int32).toInt ≤ 33 := by rw [v_59504_e]; exact tr_mul h_p0 (⟨by decide, by decide⟩ : 3 ≤ (3 : Int32).toInt ∧ (3 : Int32).toInt ≤ 3) (by decide) (by decide) (by decide) (by decide)
  have q_v_59504 : v_59504.toInt = p0.toInt * 3 := by rw [v_59504_e]; exact (tr_mulX h_p0 (⟨by decide, by decide⟩ : 3 ≤ (3 : Int32).toInt ∧ (3 : Int32).toInt ≤ 3) (by decide) (by decide)).trans (by rw [tk_3])
  refine lv_iload_n hx hb dX2_weight_7 rfl (lv_at hl 2 rfl) ?_
  refine lv_iadd hx hb dX2_weight_8 ?_
  refine lv_topi (fun v_59505 v_59505_e => ?_)
  have h_v_59505 : 0 ≤ (v_59505 : Int32).toInt ∧ (v_59505 : Int32).toInt ≤ 35 := by rw [v_59505_e]; exact tr_add h_v_59504 h_p1 (by decide) (by decide) (by decide) (by decide)
  have q_v_59505 : v_59505.toInt = v_59504.toInt + p1.toInt := by rw [v_59505_e]; exact tr_addX h_v_59504 h_p1 (by decide) (by decide)
  refine va_iald hx hb hK hP 1 0 rfl rfl (tr_in h_v_59505 (by decide) (by decide)) dX2_weight_9 ?_
  refine lv_topi (fun v_59506 v_59506_e => ?_)
  have g_v_59506 : v_59506 = n_fweights (p0.toInt.toNat * 3 + p1.toInt.toNat) := v_59506_e.trans (congrArg n_fweights (by show Int.toNat _ = _; omega))
  have gi_v_59506 := congrArg Int32.toInt g_v_59506
  exact W.iret (v := v_59506) hx hb hr (fun t ht hW => ⟨v_59506, rfl, ⟨trivial, (gi_v_59506.trans (congrArg (fun k9 => (n_fweights k9).toInt) (by omega)))⟩, ht⟩) (fun _ h => nomatch h) dX2_weight_10
set_option maxHeartbeats 4000000 in
set_option maxRecDepth 100000 in
theorem c_X2_targetN (l : Launch) (D : va_G) (g : Nat → ClassId) (n : Nat) (p0 : Int32) (p1 : Int32) (n_nodes : Int32) (n_kind : Nat) (n_pay : Nat) (n_name : Nat) (n_ways : Nat) (n_held : Nat) (n_targets : Nat) (n_weights : Nat) (n_ftargets : Nat → Int32) (h_p0 : 0 ≤ (p0 : Int32).toInt ∧ (p0 : Int32).toInt ≤ 11) (h_p1 : 0 ≤ (p1 : Int32).toInt ∧ (p1 : Int32).toInt ≤ 2) (h_n_nodes : 0 ≤ (n_nodes : Int32).toInt ∧ (n_nodes : Int32).toInt ≤ 12) (h_n_ftargets : ∀ j : Nat, 0 ≤ (n_ftargets j).toInt ∧ (n_ftargets j).toInt ≤ 11) : Met l yX2_target (.code yX2_target cX2_target 3 (some .int) :: wsL_law) ({ frames := 0, cells := 0, slots := 0, locals := 0 }) (va_Pc [.ref n, .int p0, .int p1] (fun U => va_P D vwCl [(wO2 n n_nodes n_kind n_pay n_name n_ways n_held n_targets n_weights), (wI g n_targets 0 36 n_ftargets)] U.heap ∧ va_K D vwCl (TY g) U)) (vp_Si (fun r => (0 ≤ (r : Int32).toInt ∧ (r : Int32).toInt ≤ 11) ∧ ((r : Int32).toInt = (n_ftargets (3 * (p0 : Int32).toInt.toNat + (p1 : Int32).toInt.toNat)).toInt))) 0 0 (fun _ => False) := by
  refine Met.ofW (cc := cX2_target) (maxL := 3) (ret := (some .int)) (by decide) rfl ?_
  intro p e s m args below meth c s₁ B hml hv
  obtain ⟨ha, hP, hK⟩ := hv
  have hx := B.exec
  have hb := B.bytes
  have hr := B.returns
  have hts0 := atoms_spec (ws := (.code yX2_target cX2_target 3 (some .int) :: wsL_law)) B.pre
  have hts : ∀ w ∈ wsL_law, w.before args s = true := fun w h => hts0 w (List.mem_cons_of_mem _ h)
  have hown : s.vm.findClass RX2 = some m.cls := findClass_of_methodNamed B.named
  have hlocks := B.notSynchronized
  have hP : va_P D vwCl [(wO2 n n_nodes n_kind n_pay n_name n_ways n_held n_targets n_weights), (wI g n_targets 0 36 n_ftargets)] s.heap := hP
  refine W.eq (g2 := entryFrame m ([.ref n, .int p0, .int p1] : List Value).toArray 3) (by rw [ha]) ?_
  have hl := lv_entry ([.ref n, .int p0, .int p1]) (n := 3) (Nat.le_of_ble_eq_true rfl)
  rw [lg_entry_eq]
  generalize (lg_sl ([.ref n, .int p0, .int p1]) ++ List.replicate (3 - (lg_sl ([.ref n, .int p0, .int p1])).length) Slot.unset).toArray = ls at hl ⊢
  have hl : lv_has ls 3 [(0, .ref n), (1, .int p0), (2, .int p1)] := hl
  refine lv_aload_n hx hb dX2_target_0 rfl (lv_at hl 0 rfl) ?_
  refine va_get (D := D) (ci := 2) (v := .ref n_targets) (C := RX2) (T := TX2) (N := 8) hx hb hts inlX2 hown hK hP 0 rfl rfl 6 (by decide) (hts (Cond.fieldLink RX2 27 "ChanceRings$Net" "targets" "[I") qw_315) (fun _ h9 => h9) rfl dX2_target_1 ?_
  refine lv_iload_n hx hb dX2_target_4 rfl (lv_at hl 1 rfl) ?_
  refine lv_iconst (v := 3) hx hb dX2_target_5 (by decide) ?_
  refine lv_imul hx hb dX2_target_6 ?_
  refine lv_topi (fun v_59507 v_59507_e => ?_)
  have h_v_59507 : 0 ≤ (v_59507 : Int32).toInt ∧ (v_59507 : Int32).toInt ≤ 33 := by rw [v_59507_e]; exact tr_mul h_p0 (⟨by decide, by decide⟩ : 3 ≤ (3 : Int32).toInt ∧ (3 : Int32).toInt ≤ 3) (by decide) (by decide) (by decide) (by decide)
  have q_v_59507 : v_59507.toInt = p0.toInt * 3 := by rw [v_59507_e]; exact (tr_mulX h_p0 (⟨by decide, by decide⟩ : 3 ≤ (3 : Int32).toInt ∧ (3 : Int32).toInt ≤ 3) (by decide) (by decide)).trans (by rw [tk_3])
  refine lv_iload_n hx hb dX2_target_7 rfl (lv_at hl 2 rfl) ?_
  refine lv_iadd hx hb dX2_target_8 ?_
  refine lv_topi (fun v_59508 v_59508_e => ?_)
  have h_v_59508 : 0 ≤ (v_59508 : Int32).toInt ∧ (v_59508 : Int32).toInt ≤ 35 := by rw [v_59508_e]; exact tr_add h_v_59507 h_p1 (by decide) (by decide) (by decide) (by decide)
  have q_v_59508 : v_59508.toInt = v_59507.toInt + p1.toInt := by rw [v_59508_e]; exact tr_addX h_v_59507 h_p1 (by decide) (by decide)
  refine va_iald hx hb hK hP 1 0 rfl rfl (tr_in h_v_59508 (by decide) (by decide)) dX2_target_9 ?_
  refine lv_topi (fun v_59509 v_59509_e => ?_)
  have h_v_59509 : 0 ≤ (v_59509 : Int32).toInt ∧ (v_59509 : Int32).toInt ≤ 11 := by rw [v_59509_e]; exact h_n_ftargets _
  have g_v_59509 : v_59509 = n_ftargets (p0.toInt.toNat * 3 + p1.toInt.toNat) := v_59509_e.trans (congrArg n_ftargets (by show Int.toNat _ = _; omega))
  have gi_v_59509 := congrArg Int32.toInt g_v_59509
  exact W.iret (v := v_59509) hx hb hr (fun t ht hW => ⟨v_59509, rfl, ⟨(tr_w h_v_59509 (by decide) (by decide)), (gi_v_59509.trans (congrArg (fun k9 => (n_ftargets k9).toInt) (by omega)))⟩, ht⟩) (fun _ h => nomatch h) dX2_target_10
set_option maxHeartbeats 4000000 in
set_option maxRecDepth 100000 in
theorem c_X2_setWeightN (l : Launch) (D : va_G) (g : Nat → ClassId) (sz : Nat) (n : Nat) (p0 : Int32) (p1 : Int32) (p2 : Int32) (n_nodes : Int32) (n_kind : Nat) (n_pay : Nat) (n_name : Nat) (n_ways : Nat) (n_held : Nat) (n_targets : Nat) (n_weights : Nat) (n_fweights : Nat → Int32) (h_p0 : 0 ≤ (p0 : Int32).toInt ∧ (p0 : Int32).toInt ≤ 11) (h_p1 : 0 ≤ (p1 : Int32).toInt ∧ (p1 : Int32).toInt ≤ 2) (h_n_nodes : 0 ≤ (n_nodes : Int32).toInt ∧ (n_nodes : Int32).toInt ≤ 12) : Met l yX2_setWeight (.code yX2_setWeight cX2_setWeight 4 none :: wsL_law) ({ frames := 0, cells := 0, slots := 0, locals := 0 }) (va_Pc [.ref n, .int p0, .int p1, .int p2] (fun U => U.heap.size = sz ∧ va_P D vwCl [(wO2 n n_nodes n_kind n_pay n_name n_ways n_held n_targets n_weights), (wI g n_weights 0 36 n_fweights)] U.heap ∧ va_K D vwCl (TY g) U ∧ va_D (fun _ => True) [(wO2 n n_nodes n_kind n_pay n_name n_ways n_held n_targets n_weights), (wI g n_weights 0 36 n_fweights)])) (va_Qv (fun (_ : Unit) => True) (fun _ t => ∃ n_gweights : Nat → Int32, (n_gweights = upd n_fweights (3 * (p0 : Int32).toInt.toNat + (p1 : Int32).toInt.toNat) p2) ∧ va_P D vwCl [(wO2 n n_nodes n_kind n_pay n_name n_ways n_held n_targets n_weights), (wI g n_weights 0 36 n_gweights)] t.heap ∧ va_D (va_A [(wO2 n n_nodes n_kind n_pay n_name n_ways n_held n_targets n_weights), (wI g n_weights 0 36 n_fweights)] sz) [(wO2 n n_nodes n_kind n_pay n_name n_ways n_held n_targets n_weights), (wI g n_weights 0 36 n_gweights)]) (va_A [(wO2 n n_nodes n_kind n_pay n_name n_ways n_held n_targets n_weights), (wI g n_weights 0 36 n_fweights)] sz)) 0 0 (va_A [(wO2 n n_nodes n_kind n_pay n_name n_ways n_held n_targets n_weights), (wI g n_weights 0 36 n_fweights)] sz) := by
  refine Met.ofW (cc := cX2_setWeight) (maxL := 4) (ret := none) (by decide) rfl ?_
  intro p e s m args below meth c s₁ B hml hv
  obtain ⟨ha, hsz, hP, hK, hD0⟩ := hv
  have hx := B.exec
  have hb := B.bytes
  have hr := B.returns
  have hts0 := atoms_spec (ws := (.code yX2_setWeight cX2_setWeight 4 none :: wsL_law)) B.pre
  have hts : ∀ w ∈ wsL_law, w.before args s = true := fun w h => hts0 w (List.mem_cons_of_mem _ h)
  have hown : s.vm.findClass RX2 = some m.cls := findClass_of_methodNamed B.named
  have hlocks := B.notSynchronized
  subst hsz
  have hD := hD0.self (sz := s.heap.size)
  generalize hAe : va_A [(wO2 n n_nodes n_kind n_pay n_name n_ways n_held n_targets n_weights), (wI g n_weights 0 36 n_fweights)] s.heap.size = A at hD ⊢
  have hA : ∀ q : Nat, s.heap.size ≤ q → A q := fun q h => by rw [← hAe]; exact Or.inr h
  have hS : va_S A s.heap s.heap [] := va_S.rf
  have hP : va_P D vwCl [(wO2 n n_nodes n_kind n_pay n_name n_ways n_held n_targets n_weights), (wI g n_weights 0 36 n_fweights)] s.heap := hP
  refine W.eq (g2 := entryFrame m ([.ref n, .int p0, .int p1, .int p2] : List Value).toArray 4) (by rw [ha]) ?_
  have hl := lv_entry ([.ref n, .int p0, .int p1, .int p2]) (n := 4) (Nat.le_of_ble_eq_true rfl)
  rw [lg_entry_eq]
  generalize (lg_sl ([.ref n, .int p0, .int p1, .int p2]) ++ List.replicate (4 - (lg_sl ([.ref n, .int p0, .int p1, .int p2])).length) Slot.unset).toArray = ls at hl ⊢
  have hl : lv_has ls 4 [(0, .ref n), (1, .int p0), (2, .int p1), (3, .int p2)] := hl
  refine lv_aload_n hx hb dX2_setWeight_0 rfl (lv_at hl 0 rfl) ?_
  refine va_get (D := D) (ci := 2) (v := .ref n_weights) (C := RX2) (T := TX2) (N := 8) hx hb hts inlX2 hown hK hP 0 rfl rfl 7 (by decide) (hts (Cond.fieldLink RX2 30 "ChanceRings$Net" "weights" "[I") qw_332) (fun _ h9 => h9) rfl dX2_setWeight_1 ?_
  refine lv_iload_n hx hb dX2_setWeight_4 rfl (lv_at hl 1 rfl) ?_
  refine lv_iconst (v := 3) hx hb dX2_setWeight_5 (by decide) ?_
  refine lv_imul hx hb dX2_setWeight_6 ?_
  refine lv_topi (fun v_59510 v_59510_e => ?_)
  have h_v_59510 : 0 ≤ (v_59510 : Int32).toInt ∧ (v_59510 : Int32).toInt ≤ 33 := by rw [v_59510_e]; exact tr_mul h_p0 (⟨by decide, by decide⟩ : 3 ≤ (3 : Int32).toInt ∧ (3 : Int32).toInt ≤ 3) (by decide) (by decide) (by decide) (by decide)
  have q_v_59510 : v_59510.toInt = p0.toInt * 3 := by rw [v_59510_e]; exact (tr_mulX h_p0 (⟨by decide, by decide⟩ : 3 ≤ (3 : Int32).toInt ∧ (3 : Int32).toInt ≤ 3) (by decide) (by decide)).trans (by rw [tk_3])
  refine lv_iload_n hx hb dX2_setWeight_7 rfl (lv_at hl 2 rfl) ?_
  refine lv_iadd hx hb dX2_setWeight_8 ?_
  refine lv_topi (fun v_59511 v_59511_e => ?_)
  have h_v_59511 : 0 ≤ (v_59511 : Int32).toInt ∧ (v_59511 : Int32).toInt ≤ 35 := by rw [v_59511_e]; exact tr_add h_v_59510 h_p1 (by decide) (by decide) (by decide) (by decide)
  have q_v_59511 : v_59511.toInt = v_59510.toInt + p1.toInt := by rw [v_59511_e]; exact tr_addX h_v_59510 h_p1 (by decide) (by decide)
  refine lv_iload_n hx hb dX2_setWeight_9 rfl (lv_at hl 3 rfl) ?_
  refine va_iast hx hb hK hP hD hS 1 0 rfl rfl (tr_in h_v_59511 (by decide) (by decide)) dX2_setWeight_10 (fun H locs hP hD hS => ?_)
  obtain ⟨f_59512, f_59512_e, hP, hD⟩ : ∃ FX : Nat → Int32, FX = (upd n_fweights (v_59511 : Int32).toNatClampNeg p2) ∧ va_P D vwCl [(wO2 n n_nodes n_kind n_pay n_name n_ways n_held n_targets n_weights), (wI g n_weights 0 36 FX)] H ∧ va_D A [(wO2 n n_nodes n_kind n_pay n_name n_ways n_held n_targets n_weights), (wI g n_weights 0 36 FX)] := ⟨_, rfl, hP, hD⟩
  have hP : va_P D vwCl [(wO2 n n_nodes n_kind n_pay n_name n_ways n_held n_targets n_weights), (wI g n_weights 0 36 f_59512)] H := hP
  have hD : va_D A [(wO2 n n_nodes n_kind n_pay n_name n_ways n_held n_targets n_weights), (wI g n_weights 0 36 f_59512)] := hD
  have hP9 := hP.sub (ws' := [(wO2 n n_nodes n_kind n_pay n_name n_ways n_held n_targets n_weights), (wI g n_weights 0 36 f_59512)]) [0, 1] rfl
  have hD9 := hD.sub (ws' := [(wO2 n n_nodes n_kind n_pay n_name n_ways n_held n_targets n_weights), (wI g n_weights 0 36 f_59512)]) [0, 1] (by decide) rfl
  exact W.vret hx hb hr (fun t ht hW => ⟨⟨(), rfl, trivial, f_59512, (f_59512_e.trans (congrArg (fun k9 => upd n_fweights k9 p2) (by show Int.toNat _ = _; (first | (clear h_p0 h_p1 h_n_nodes h_v_59510 q_v_59510 h_v_59511 q_v_59511; omega) | omega)))), by rw [ht]; exact hP9, hD9⟩, hS.F ht⟩) hS.2.2 dX2_setWeight_11
set_option maxHeartbeats 4000000 in
set_option maxRecDepth 100000 in
theorem c_X2_canTakeN (l : Launch) (D : va_G) (g : Nat → ClassId) (n : Nat) (p0 : Int32) (p1 : Int32) (n_nodes : Int32) (n_kind : Nat) (n_pay : Nat) (n_name : Nat) (n_ways : Nat) (n_held : Nat) (n_targets : Nat) (n_weights : Nat) (n_fheld : Nat → Int32) (h_p0 : 0 ≤ (p0 : Int32).toInt ∧ (p0 : Int32).toInt ≤ 11) (h_n_nodes : 0 ≤ (n_nodes : Int32).toInt ∧ (n_nodes : Int32).toInt ≤ 12) (h_n_fheld : ∀ j : Nat, (-1) ≤ (n_fheld j).toInt ∧ (n_fheld j).toInt ≤ 2) : Met l yX2_canTake (.code yX2_canTake cX2_canTake 3 (some .boolean) :: wsL_law) ({ frames := 0, cells := 0, slots := 0, locals := 0 }) (va_Pc [.ref n, .int p0, .int p1] (fun U => va_P D vwCl [(wO2 n n_nodes n_kind n_pay n_name n_ways n_held n_targets n_weights), (wI g n_held 0 12 n_fheld)] U.heap ∧ va_K D vwCl (TY g) U)) (vp_Si (fun r => (0 ≤ (r : Int32).toInt ∧ (r : Int32).toInt ≤ 1) ∧ (Hide (¬ (r : Int32).toInt = 0 → ((n_fheld (p0 : Int32).toInt.toNat).toInt = -1 ∨ (n_fheld (p0 : Int32).toInt.toNat).toInt = (p1 : Int32).toInt))) ∧ (Hide ((r : Int32).toInt = 0 → ¬ ((n_fheld (p0 : Int32).toInt.toNat).toInt = -1 ∨ (n_fheld (p0 : Int32).toInt.toNat).toInt = (p1 : Int32).toInt))))) 0 0 (fun _ => False) := by
  refine Met.ofW (cc := cX2_canTake) (maxL := 3) (ret := (some .boolean)) (by decide) rfl ?_
  intro p e s m args below meth c s₁ B hml hv
  obtain ⟨ha, hP, hK⟩ := hv
  have hx := B.exec
  have hb := B.bytes
  have hr := B.returns
  have hts0 := atoms_spec (ws := (.code yX2_canTake cX2_canTake 3 (some .boolean) :: wsL_law)) B.pre
  have hts : ∀ w ∈ wsL_law, w.before args s = true := fun w h => hts0 w (List.mem_cons_of_mem _ h)
  have hown : s.vm.findClass RX2 = some m.cls := findClass_of_methodNamed B.named
  have hlocks := B.notSynchronized
  have hP : va_P D vwCl [(wO2 n n_nodes n_kind n_pay n_name n_ways n_held n_targets n_weights), (wI g n_held 0 12 n_fheld)] s.heap := hP
  refine W.eq (g2 := entryFrame m ([.ref n, .int p0, .int p1] : List Value).toArray 3) (by rw [ha]) ?_
  have hl := lv_entry ([.ref n, .int p0, .int p1]) (n := 3) (Nat.le_of_ble_eq_true rfl)
  rw [lg_entry_eq]
  generalize (lg_sl ([.ref n, .int p0, .int p1]) ++ List.replicate (3 - (lg_sl ([.ref n, .int p0, .int p1])).length) Slot.unset).toArray = ls at hl ⊢
  have hl : lv_has ls 3 [(0, .ref n), (1, .int p0), (2, .int p1)] := hl
  refine lv_aload_n hx hb dX2_canTake_0 rfl (lv_at hl 0 rfl) ?_
  refine va_get (D := D) (ci := 2) (v := .ref n_held) (C := RX2) (T := TX2) (N := 8) hx hb hts inlX2 hown hK hP 0 rfl rfl 5 (by decide) (hts (Cond.fieldLink RX2 24 "ChanceRings$Net" "held" "[I") qw_314) (fun _ h9 => h9) rfl dX2_canTake_1 ?_
  refine lv_iload_n hx hb dX2_canTake_4 rfl (lv_at hl 1 rfl) ?_
  refine va_iald hx hb hK hP 1 0 rfl rfl (tr_in h_p0 (by decide) (by decide)) dX2_canTake_5 ?_
  refine lv_topi (fun v_59513 v_59513_e => ?_)
  have h_v_59513 : (-1) ≤ (v_59513 : Int32).toInt ∧ (v_59513 : Int32).toInt ≤ 2 := by rw [v_59513_e]; exact h_n_fheld _
  have g_v_59513 : v_59513 = n_fheld (p0.toInt.toNat) := v_59513_e.trans (congrArg n_fheld rfl)
  have gi_v_59513 := congrArg Int32.toInt g_v_59513
  refine lv_iconst (v := (-1)) hx hb dX2_canTake_6 (by decide) ?_
  refine lv_icmp_eq (tgt := 20) hx hb dX2_canTake_7 (by decide) (fun c_59514 => ?_) (fun c_59514 => ?_)
  · skip
    have kk_m1 := tk_m1
    have c_59514_i : (v_59513 : Int32).toInt = ((-1) : Int32).toInt := congrArg Int32.toInt c_59514
    have h_59515 : (-1) ≤ (v_59513 : Int32).toInt ∧ (v_59513 : Int32).toInt ≤ (-1) := nr_eq_l h_v_59513 (⟨by decide, by decide⟩ : (-1) ≤ ((-1) : Int32).toInt ∧ ((-1) : Int32).toInt ≤ (-1)) c_59514_i (by decide) (by decide)
    refine lv_iconst (v := 1) hx hb dX2_canTake_20 (by decide) ?_
    refine lv_goto (tgt := 25) hx hb dX2_canTake_21 (by decide) ?_
    exact W.zret (v := 1) hx hb hr (by decide) (fun t ht hW => ⟨1, rfl, ⟨(⟨by decide, by decide⟩ : 0 ≤ (1 : Int32).toInt ∧ (1 : Int32).toInt ≤ 1), (fun h9 => (by have z_0 := tk_0; have z_1 := tk_1; (first | (clear h_p0 h_n_nodes h_v_59513 g_v_59513 gi_v_59513 c_59514_i h_59515; omega) | omega))), (fun h9 => (by have z_0 := tk_0; have z_1 := tk_1; (first | (clear h_p0 h_n_nodes h_v_59513 g_v_59513 gi_v_59513 c_59514_i h_59515; omega) | omega)))⟩, ht⟩) (fun _ h => nomatch h) dX2_canTake_25
  · skip
    have kk_m1 := tk_m1
    have c_59514_i : ¬ (v_59513 : Int32).toInt = ((-1) : Int32).toInt := (fun q => c_59514 (Int32.toInt_inj.mp q))
    have h_59516 : 0 ≤ (v_59513 : Int32).toInt ∧ (v_59513 : Int32).toInt ≤ 2 := nr_ne_l h_v_59513 (⟨by decide, by decide⟩ : (-1) ≤ ((-1) : Int32).toInt ∧ ((-1) : Int32).toInt ≤ (-1)) c_59514_i (by decide) (by decide)
    refine lv_aload_n hx hb dX2_canTake_10 rfl (lv_at hl 0 rfl) ?_
    refine va_get (D := D) (ci := 2) (v := .ref n_held) (C := RX2) (T := TX2) (N := 8) hx hb hts inlX2 hown hK hP 0 rfl rfl 5 (by decide) (hts (Cond.fieldLink RX2 24 "ChanceRings$Net" "held" "[I") qw_314) (fun _ h9 => h9) rfl dX2_canTake_11 ?_
    refine lv_iload_n hx hb dX2_canTake_14 rfl (lv_at hl 1 rfl) ?_
    refine va_iald hx hb hK hP 1 0 rfl rfl (tr_in h_p0 (by decide) (by decide)) dX2_canTake_15 ?_
    refine tz_i (y := v_59513) ((congrArg n_fheld rfl).trans g_v_59513.symm) ?_
    refine lv_iload_n hx hb dX2_canTake_16 rfl (lv_at hl 2 rfl) ?_
    refine lv_icmp_ne (tgt := 24) hx hb dX2_canTake_17 (by decide) (fun c_59517 => ?_) (fun c_59517 => ?_)
    · skip
      have c_59517_i : ¬ (v_59513 : Int32).toInt = (p1 : Int32).toInt := (fun q => c_59517 (Int32.toInt_inj.mp q))
      refine lv_iconst (v := 0) hx hb dX2_canTake_24 (by decide) ?_
      exact W.zret (v := 0) hx hb hr (by decide) (fun t ht hW => ⟨0, rfl, ⟨(⟨by decide, by decide⟩ : 0 ≤ (0 : Int32).toInt ∧ (0 : Int32).toInt ≤ 1), (fun h9 => (by have z_0 := tk_0; have z_1 := tk_1; (first | (clear h_p0 h_n_nodes h_v_59513 g_v_59513 gi_v_59513 c_59514_i h_59516 c_59517_i; omega) | omega))), (fun h9 => (by have z_0 := tk_0; have z_1 := tk_1; (first | (clear h_p0 h_n_nodes h_v_59513 g_v_59513 gi_v_59513 c_59514_i h_59516 c_59517_i; omega) | omega)))⟩, ht⟩) (fun _ h => nomatch h) dX2_canTake_25
    · skip
      have c_59517_i : (v_59513 : Int32).toInt = (p1 : Int32).toInt := congrArg Int32.toInt c_59517
      refine lv_iconst (v := 1) hx hb dX2_canTake_20 (by decide) ?_
      refine lv_goto (tgt := 25) hx hb dX2_canTake_21 (by decide) ?_
      exact W.zret (v := 1) hx hb hr (by decide) (fun t ht hW => ⟨1, rfl, ⟨(⟨by decide, by decide⟩ : 0 ≤ (1 : Int32).toInt ∧ (1 : Int32).toInt ≤ 1), (fun h9 => (by have z_0 := tk_0; have z_1 := tk_1; (first | (clear h_p0 h_n_nodes h_v_59513 g_v_59513 gi_v_59513 c_59514_i h_59516 c_59517_i; omega) | omega))), (fun h9 => (by have z_0 := tk_0; have z_1 := tk_1; (first | (clear h_p0 h_n_nodes h_v_59513 g_v_59513 gi_v_59513 c_59514_i h_59516 c_59517_i; omega) | omega)))⟩, ht⟩) (fun _ h => nomatch h) dX2_canTake_25
set_option maxHeartbeats 4000000 in
set_option maxRecDepth 100000 in
theorem c_X2_nextNodesN (l : Launch) (D : va_G) (g : Nat → ClassId) (n : Nat) (p0 : Int32) (n_nodes : Int32) (n_kind : Nat) (n_pay : Nat) (n_name : Nat) (n_ways : Nat) (n_held : Nat) (n_targets : Nat) (n_weights : Nat) (n_fways : Nat → Int32) (n_fheld : Nat → Int32) (n_ftargets : Nat → Int32) (h_p0 : 0 ≤ (p0 : Int32).toInt ∧ (p0 : Int32).toInt ≤ 11) (h_n_nodes : 0 ≤ (n_nodes : Int32).toInt ∧ (n_nodes : Int32).toInt ≤ 12) (h_n_fways : ∀ j : Nat, 0 ≤ (n_fways j).toInt ∧ (n_fways j).toInt ≤ 3) (h_n_fheld : ∀ j : Nat, (-1) ≤ (n_fheld j).toInt ∧ (n_fheld j).toInt ≤ 2) (h_n_ftargets : ∀ j : Nat, 0 ≤ (n_ftargets j).toInt ∧ (n_ftargets j).toInt ≤ 11) : Met l yX2_nextNodes (.code yX2_nextNodes cX2_nextNodes 4 (some .int) :: wsL_law) ({ frames := 1, cells := 0, slots := 0, locals := 22 }) (va_Pc [.ref n, .int p0] (fun U => va_P D vwCl [(wO2 n n_nodes n_kind n_pay n_name n_ways n_held n_targets n_weights), (wI g n_ways 0 12 n_fways), (wI g n_held 0 12 n_fheld), (wI g n_targets 0 36 n_ftargets)] U.heap ∧ va_K D vwCl (TY g) U)) (vp_Si (fun r => (0 ≤ (r : Int32).toInt ∧ (r : Int32).toInt ≤ 4095) ∧ ((r : Int32) = ahF (n_fheld (p0 : Int32).toInt.toNat).toInt (fun i => n_ftargets (3 * (p0 : Int32).toInt.toNat + i)) (n_fways (p0 : Int32).toInt.toNat).toInt.toNat))) 0 0 (fun _ => False) := by
  refine Met.ofW (cc := cX2_nextNodes) (maxL := 4) (ret := (some .int)) (by decide) rfl ?_
  intro p e s m args below meth c s₁ B hml hv
  obtain ⟨ha, hP, hK⟩ := hv
  have hx := B.exec
  have hb := B.bytes
  have hr := B.returns
  have hts0 := atoms_spec (ws := (.code yX2_nextNodes cX2_nextNodes 4 (some .int) :: wsL_law)) B.pre
  have hts : ∀ w ∈ wsL_law, w.before args s = true := fun w h => hts0 w (List.mem_cons_of_mem _ h)
  have hown : s.vm.findClass RX2 = some m.cls := findClass_of_methodNamed B.named
  have hlocks := B.notSynchronized
  have hP : va_P D vwCl [(wO2 n n_nodes n_kind n_pay n_name n_ways n_held n_targets n_weights), (wI g n_ways 0 12 n_fways), (wI g n_held 0 12 n_fheld), (wI g n_targets 0 36 n_ftargets)] s.heap := hP
  refine W.eq (g2 := entryFrame m ([.ref n, .int p0] : List Value).toArray 4) (by rw [ha]) ?_
  have hl := lv_entry ([.ref n, .int p0]) (n := 4) (Nat.le_of_ble_eq_true rfl)
  rw [lg_entry_eq]
  generalize (lg_sl ([.ref n, .int p0]) ++ List.replicate (4 - (lg_sl ([.ref n, .int p0])).length) Slot.unset).toArray = ls at hl ⊢
  have hl : lv_has ls 4 [(0, .ref n), (1, .int p0)] := hl
  refine lv_iconst (v := 0) hx hb dX2_nextNodes_0 (by decide) ?_
  refine lv_istore_n (lv' := [(2, .int 0), (0, .ref n), (1, .int p0)]) hx hb dX2_nextNodes_1 rfl hl (by decide) rfl (fun ls hl => ?_)
  refine lv_iconst (v := 0) hx hb dX2_nextNodes_2 (by decide) ?_
  refine lv_istore_n (lv' := [(3, .int 0), (2, .int 0), (0, .ref n), (1, .int p0)]) hx hb dX2_nextNodes_3 rfl hl (by decide) rfl (fun ls hl => ?_)
  have lp_59537 : ∀ (n_59537 : Nat) (x_59535 : Int32) (x_59536 : Int32) (ls : Array Slot), (0 ≤ (x_59535 : Int32).toInt ∧ (x_59535 : Int32).toInt ≤ 4095) → (0 ≤ (x_59536 : Int32).toInt ∧ (x_59536 : Int32).toInt ≤ 3) → ((x_59535 : Int32) = ahF (n_fheld (p0 : Int32).toInt.toNat).toInt (fun i => n_ftargets (3 * (p0 : Int32).toInt.toNat + i)) x_59536.toInt.toNat ∧ x_59536.toInt ≤ (n_fways (p0 : Int32).toInt.toNat).toInt) → (3 - x_59536.toInt < (n_59537 : Int)) → lv_has ls 4 [(3, .int x_59536), (2, .int x_59535), (0, .ref n), (1, .int p0)] → W p l e (headSpec (.code yX2_nextNodes cX2_nextNodes 4 (some .int) :: wsL_law) ({ frames := 1, cells := 0, slots := 0, locals := 22 })).room s m args below meth c s.heap [] 0 0 (MQ below (vp_Si (fun r => (0 ≤ (r : Int32).toInt ∧ (r : Int32).toInt ≤ 4095) ∧ ((r : Int32) = ahF (n_fheld (p0 : Int32).toInt.toNat).toInt (fun i => n_ftargets (3 * (p0 : Int32).toInt.toNat + i)) (n_fways (p0 : Int32).toInt.toNat).toInt.toNat))) args s 0 0 (fun _ => False)) (F0 m 4 ls []) := by
    intro n_59537
    induction n_59537 with
    | zero =>
      intro x_59535 x_59536 ls h_x_59535 h_x_59536 hr59537_0 hm_59537 hl
      exfalso; omega
    | succ n_59537 ih_59537 =>
      intro x_59535 x_59536 ls h_x_59535 h_x_59536 hr59537_0 hm_59537 hl
      refine lv_iload_n hx hb dX2_nextNodes_4 rfl (lv_at hl 0 rfl) ?_
      refine lv_aload_n hx hb dX2_nextNodes_5 rfl (lv_at hl 2 rfl) ?_
      refine va_get (D := D) (ci := 2) (v := .ref n_ways) (C := RX2) (T := TX2) (N := 8) hx hb hts inlX2 hown hK hP 0 rfl rfl 4 (by decide) (hts (Cond.fieldLink RX2 21 "ChanceRings$Net" "ways" "[I") qw_318) (fun _ h9 => h9) rfl dX2_nextNodes_6 ?_
      refine lv_iload_n hx hb dX2_nextNodes_9 rfl (lv_at hl 3 rfl) ?_
      refine va_iald hx hb hK hP 1 0 rfl rfl (tr_in h_p0 (by decide) (by decide)) dX2_nextNodes_10 ?_
      refine lv_topi (fun v_59538 v_59538_e => ?_)
      have h_v_59538 : 0 ≤ (v_59538 : Int32).toInt ∧ (v_59538 : Int32).toInt ≤ 3 := by rw [v_59538_e]; exact h_n_fways _
      have g_v_59538 : v_59538 = n_fways (p0.toInt.toNat) := v_59538_e.trans (congrArg n_fways rfl)
      have gi_v_59538 := congrArg Int32.toInt g_v_59538
      refine lv_icmp_ge (tgt := 40) hx hb dX2_nextNodes_11 (by decide) (fun c_59539 => ?_) (fun c_59539 => ?_)
      · skip
        have c_59539_i := Int32.le_iff_toInt_le.mp c_59539
        refine lv_iload_n hx hb dX2_nextNodes_40 rfl (lv_at hl 1 rfl) ?_
        exact W.iret (v := x_59535) hx hb hr (fun t ht hW => ⟨x_59535, rfl, ⟨(tr_w h_x_59535 (by decide) (by decide)), (hr59537_0.1.trans (congrArg (ahF (n_fheld (p0 : Int32).toInt.toNat).toInt (fun i => n_ftargets (3 * (p0 : Int32).toInt.toNat + i))) (by have q8 := gi_v_59538; omega)))⟩, ht⟩) (fun _ h => nomatch h) dX2_nextNodes_41
      · skip
        have c_59539_i := Int32.lt_iff_toInt_lt.mp (Int32.not_le.mp c_59539)
        have h_59540 : 0 ≤ (x_59536 : Int32).toInt ∧ (x_59536 : Int32).toInt ≤ 2 := nr_lt_l h_x_59536 h_v_59538 c_59539_i (by decide) (by decide)
        have h_59541 : 1 ≤ (v_59538 : Int32).toInt ∧ (v_59538 : Int32).toInt ≤ 3 := nr_lt_r h_x_59536 h_v_59538 c_59539_i (by decide) (by decide)
        refine lv_aload_n hx hb dX2_nextNodes_14 rfl (lv_at hl 2 rfl) ?_
        refine lv_iload_n hx hb dX2_nextNodes_15 rfl (lv_at hl 3 rfl) ?_
        refine lv_iload_n hx hb dX2_nextNodes_16 rfl (lv_at hl 0 rfl) ?_
        have hPc := hP.sub (ws' := [(wO2 n n_nodes n_kind n_pay n_name n_ways n_held n_targets n_weights), (wI g n_held 0 12 n_fheld)]) [0, 2] rfl
        refine vp_callSi (va_Run.run (va_runV (As := [.int p0, .int x_59536]) (rest := []) ⟨hx, hb, hml, hown, hts⟩ (c_X2_canTakeN l D g n p0 x_59536 n_nodes n_kind n_pay n_name n_ways n_held n_targets n_weights n_fheld (tr_w h_p0 (by decide) (by decide)) (tr_w h_n_nodes (by decide) (by decide)) (tr_wa h_n_fheld (by decide) (by decide))) (cwV 2 hts (tz_gV qw_319 qw_320 qw_321 qw_322 qw_323) rfl rfl rfl (by decide +kernel) ⟨Nat.le_of_ble_eq_true rfl, Nat.le_of_ble_eq_true rfl⟩) ⟨tz_blS, va_recv hK hPc (ci := 2) (q0 := 0) rfl rfl, tz_preS hPc hK⟩ rfl rfl hl.1 rfl (lv_room (Nat.le_of_ble_eq_true rfl)) dX2_nextNodes_17 ⟨Nat.le_of_ble_eq_true rfl, Nat.le_of_ble_eq_true rfl⟩)) (fun r_59542 hw => ?_)
        have hw_59543 : 0 ≤ (r_59542 : Int32).toInt ∧ (r_59542 : Int32).toInt ≤ 1 := hw.1
        have hw_59543_p0 : Hide (¬ (r_59542 : Int32).toInt = 0 → ((n_fheld (p0 : Int32).toInt.toNat).toInt = -1 ∨ (n_fheld (p0 : Int32).toInt.toNat).toInt = (x_59536 : Int32).toInt)) := hw.2.1
        have hw_59543_p1 : Hide ((r_59542 : Int32).toInt = 0 → ¬ ((n_fheld (p0 : Int32).toInt.toNat).toInt = -1 ∨ (n_fheld (p0 : Int32).toInt.toNat).toInt = (x_59536 : Int32).toInt)) := hw.2.2
        refine lv_if_eq (tgt := 34) hx hb dX2_nextNodes_20 (by decide) (fun c_59544 => ?_) (fun c_59544 => ?_)
        · skip
          have kk_0 := tk_0
          have c_59544_i : (r_59542 : Int32).toInt = (0 : Int32).toInt := congrArg Int32.toInt c_59544
          have hw_59543_p1_u := (hw_59543_p1).get (c_59544_i.trans tk_0)
          have h_59545 : 0 ≤ (r_59542 : Int32).toInt ∧ (r_59542 : Int32).toInt ≤ 0 := nr_eq_l hw_59543 (⟨by decide, by decide⟩ : 0 ≤ (0 : Int32).toInt ∧ (0 : Int32).toInt ≤ 0) c_59544_i (by decide) (by decide)
          obtain ⟨v_59547, v_59547_e⟩ : ∃ y : Int32, y = x_59536 + Int32.ofInt 1 := ⟨_, rfl⟩
          have h_v_59547 : 1 ≤ (v_59547 : Int32).toInt ∧ (v_59547 : Int32).toInt ≤ 3 := by rw [v_59547_e]; exact tr_add h_59540 (⟨by decide, by decide⟩ : 1 ≤ (Int32.ofInt 1 : Int32).toInt ∧ (Int32.ofInt 1 : Int32).toInt ≤ 1) (by decide) (by decide) (by decide) (by decide)
          have q_v_59547 : v_59547.toInt = x_59536.toInt + 1 := by rw [v_59547_e]; exact tr_addE h_59540 (⟨by decide, by decide⟩ : 1 ≤ (Int32.ofInt 1 : Int32).toInt ∧ (Int32.ofInt 1 : Int32).toInt ≤ 1) (by decide) (by decide)
          refine lv_iinc (v := v_59547) (lv' := [(3, .int v_59547), (2, .int x_59535), (0, .ref n), (1, .int p0)]) hx hb dX2_nextNodes_34 hl (k := 0) rfl v_59547_e.symm (by decide) rfl (fun ls hl => ?_)
          refine lv_goto (tgt := 4) hx hb dX2_nextNodes_37 (by decide) ?_
          exact ih_59537 x_59535 v_59547 ls (tr_w h_x_59535 (by decide) (by decide)) (tr_w h_v_59547 (by decide) (by decide)) ⟨ahF_n hr59537_0.1 (by (first | (clear h_n_nodes hw_59543 c_59544_i h_59545; omega) | omega)) (by have q9 := hw_59543_p1_u; (first | (clear h_n_nodes hw_59543 c_59544_i h_59545; omega) | omega)) rfl, (by have q8 := gi_v_59538; (first | (clear h_n_nodes hw_59543 c_59544_i h_59545; omega) | omega))⟩ (by (first | (clear h_n_nodes hw_59543 c_59544_i h_59545; omega) | omega)) (lv_sub hl [0, 1, 2, 3] rfl)
        · skip
          have kk_0 := tk_0
          have c_59544_i : ¬ (r_59542 : Int32).toInt = (0 : Int32).toInt := (fun q => c_59544 (Int32.toInt_inj.mp q))
          have hw_59543_p0_u := (hw_59543_p0).get (fun q => c_59544_i (q.trans tk_0.symm))
          have h_59546 : 1 ≤ (r_59542 : Int32).toInt ∧ (r_59542 : Int32).toInt ≤ 1 := nr_ne_l hw_59543 (⟨by decide, by decide⟩ : 0 ≤ (0 : Int32).toInt ∧ (0 : Int32).toInt ≤ 0) c_59544_i (by decide) (by decide)
          refine lv_iload_n hx hb dX2_nextNodes_23 rfl (lv_at hl 1 rfl) ?_
          refine lv_iconst (v := 1) hx hb dX2_nextNodes_24 (by decide) ?_
          refine lv_aload_n hx hb dX2_nextNodes_25 rfl (lv_at hl 2 rfl) ?_
          refine lv_iload_n hx hb dX2_nextNodes_26 rfl (lv_at hl 3 rfl) ?_
          refine lv_iload_n hx hb dX2_nextNodes_27 rfl (lv_at hl 0 rfl) ?_
          have hPc := hP.sub (ws' := [(wO2 n n_nodes n_kind n_pay n_name n_ways n_held n_targets n_weights), (wI g n_targets 0 36 n_ftargets)]) [0, 3] rfl
          refine vp_callSi (va_Run.run (va_runV (As := [.int p0, .int x_59536]) (rest := [.int 1, .int x_59535]) ⟨hx, hb, hml, hown, hts⟩ (c_X2_targetN l D g n p0 x_59536 n_nodes n_kind n_pay n_name n_ways n_held n_targets n_weights n_ftargets (tr_w h_p0 (by decide) (by decide)) (tr_w h_59540 (by decide) (by decide)) (tr_w h_n_nodes (by decide) (by decide)) (tr_wa h_n_ftargets (by decide) (by decide))) (cwV 2 hts (tz_gV qw_324 qw_325 qw_326 qw_322 qw_327) rfl rfl rfl (by decide +kernel) ⟨Nat.le_of_ble_eq_true rfl, Nat.le_of_ble_eq_true rfl⟩) ⟨tz_blS, va_recv hK hPc (ci := 2) (q0 := 0) rfl rfl, tz_preS hPc hK⟩ rfl rfl hl.1 rfl (lv_room (Nat.le_of_ble_eq_true rfl)) dX2_nextNodes_28 ⟨Nat.le_of_ble_eq_true rfl, Nat.le_of_ble_eq_true rfl⟩)) (fun r_59548 hw => ?_)
          have hw_59549 : 0 ≤ (r_59548 : Int32).toInt ∧ (r_59548 : Int32).toInt ≤ 11 := hw.1
          have hw_59549_p0 : (r_59548 : Int32).toInt = (n_ftargets (3 * (p0 : Int32).toInt.toNat + (x_59536 : Int32).toInt.toNat)).toInt := hw.2
          refine lv_ishl hx hb dX2_nextNodes_31 ?_
          refine lv_topi (fun v_59550 v_59550_e => ?_)
          have h_v_59550 : 0 ≤ (v_59550 : Int32).toInt ∧ (v_59550 : Int32).toInt ≤ 4095 := by rw [v_59550_e]; exact tr_shl12 (tr_w hw_59549 (by decide) (by decide))
          refine lv_ior hx hb dX2_nextNodes_32 ?_
          refine lv_topi (fun v_59551 v_59551_e => ?_)
          have h_v_59551 : 0 ≤ (v_59551 : Int32).toInt ∧ (v_59551 : Int32).toInt ≤ 4095 := by rw [v_59551_e]; exact (tr_or12 (tr_w h_x_59535 (by decide) (by decide)) (tr_w h_v_59550 (by decide) (by decide))).1
          have o_v_59551 : (x_59535 : Int32).toInt ≤ (v_59551 : Int32).toInt := by rw [v_59551_e]; exact (tr_or12 (tr_w h_x_59535 (by decide) (by decide)) (tr_w h_v_59550 (by decide) (by decide))).2
          refine lv_istore_n (lv' := [(2, .int v_59551), (3, .int x_59536), (0, .ref n), (1, .int p0)]) hx hb dX2_nextNodes_33 rfl hl (by decide) rfl (fun ls hl => ?_)
          obtain ⟨v_59552, v_59552_e⟩ : ∃ y : Int32, y = x_59536 + Int32.ofInt 1 := ⟨_, rfl⟩
          have h_v_59552 : 1 ≤ (v_59552 : Int32).toInt ∧ (v_59552 : Int32).toInt ≤ 3 := by rw [v_59552_e]; exact tr_add h_59540 (⟨by decide, by decide⟩ : 1 ≤ (Int32.ofInt 1 : Int32).toInt ∧ (Int32.ofInt 1 : Int32).toInt ≤ 1) (by decide) (by decide) (by decide) (by decide)
          have q_v_59552 : v_59552.toInt = x_59536.toInt + 1 := by rw [v_59552_e]; exact tr_addE h_59540 (⟨by decide, by decide⟩ : 1 ≤ (Int32.ofInt 1 : Int32).toInt ∧ (Int32.ofInt 1 : Int32).toInt ≤ 1) (by decide) (by decide)
          refine lv_iinc (v := v_59552) (lv' := [(3, .int v_59552), (2, .int v_59551), (0, .ref n), (1, .int p0)]) hx hb dX2_nextNodes_34 hl (k := 1) rfl v_59552_e.symm (by decide) rfl (fun ls hl => ?_)
          refine lv_goto (tgt := 4) hx hb dX2_nextNodes_37 (by decide) ?_
          exact ih_59537 v_59551 v_59552 ls (tr_w h_v_59551 (by decide) (by decide)) (tr_w h_v_59552 (by decide) (by decide)) ⟨ahF_y hr59537_0.1 (by (first | (clear h_n_nodes h_x_59535 hw_59543 c_59544_i h_59546 h_v_59550; omega) | omega)) (by have q9 := hw_59543_p0_u; (first | (clear h_n_nodes h_x_59535 hw_59543 c_59544_i h_59546 h_v_59550; omega) | omega)) (Int32.toInt_inj.mp hw_59549_p0) v_59550_e v_59551_e, (by have q8 := gi_v_59538; (first | (clear h_n_nodes h_x_59535 hw_59543 c_59544_i h_59546 h_v_59550; omega) | omega))⟩ (by (first | (clear h_n_nodes h_x_59535 hw_59543 c_59544_i h_59546 h_v_59550; omega) | omega)) (lv_sub hl [0, 1, 2, 3] rfl)
  exact lp_59537 4 0 0 ls (⟨by decide, by decide⟩ : 0 ≤ (0 : Int32).toInt ∧ (0 : Int32).toInt ≤ 4095) (⟨by decide, by decide⟩ : 0 ≤ (0 : Int32).toInt ∧ (0 : Int32).toInt ≤ 3) ⟨rfl, by have q7 := h_n_fways (p0 : Int32).toInt.toNat; have z_0 := tk_0; omega⟩ (by decide) (lv_sub hl [0, 1, 2, 3] rfl)
theorem qw_334 : Cond.fieldLink RX10 9 "ChanceRings$Values" "part" "[J" ∈ wsL_law := tseg_2 (by decide +kernel) (List.mem_of_getElem? (i := 87) rfl)
theorem qw_335 : Cond.fieldLink RX10 15 "ChanceRings$Values" "whole" "J" ∈ wsL_law := tseg_2 (by decide +kernel) (List.mem_of_getElem? (i := 92) rfl)
theorem qw_336 : Cond.methodLink RX10 19 yX10_commonDivisor ∈ wsL_law := tseg_5 (by decide +kernel) (List.mem_of_getElem? (i := 75) rfl)
theorem qw_337 : Cond.static yX10_commonDivisor ∈ wsL_law := tseg_5 (by decide +kernel) (List.mem_of_getElem? (i := 76) rfl)
theorem qw_338 : Cond.initialized RX10 ∈ wsL_law := tseg_1 (by decide +kernel) (List.mem_of_getElem? (i := 16) rfl)
theorem qw_339 : Cond.code yX10_commonDivisor cX10_commonDivisor 11 (some .long) ∈ wsL_law := tseg_5 (by decide +kernel) (List.mem_of_getElem? (i := 77) rfl)
theorem qw_340 : Cond.fieldLink RX8 15 "ChanceRings$Tape" "length" "I" ∈ wsL_law := tseg_1 (by decide +kernel) (List.mem_of_getElem? (i := 40) rfl)
theorem qw_341 : Cond.fieldLink RX8 9 "ChanceRings$Tape" "bytes" "[I" ∈ wsL_law := tseg_1 (by decide +kernel) (List.mem_of_getElem? (i := 37) rfl)
theorem qw_342 : Cond.methodLink RX2 37 arraycopyName ∈ wsL_law := tseg_3 (by decide +kernel) (List.mem_of_getElem? (i := 61) rfl)
theorem qw_343 : Cond.native arraycopyName ∈ wsL_law := tseg_3 (by decide +kernel) (List.mem_of_getElem? (i := 63) rfl)
theorem qw_344 : Cond.static arraycopyName ∈ wsL_law := tseg_3 (by decide +kernel) (List.mem_of_getElem? (i := 62) rfl)
theorem qw_345 : Cond.initialized "java/lang/System" ∈ wsL_law := tseg_1 (by decide +kernel) (List.mem_of_getElem? (i := 18) rfl)
theorem dX10_commonDivisor_0 : decode cX10_commonDivisor 0 = .ok (.lload_n 0, 1) := by decide +kernel
theorem dX10_commonDivisor_1 : decode cX10_commonDivisor 1 = .ok (.lstore 4, 2) := by decide +kernel
theorem dX10_commonDivisor_3 : decode cX10_commonDivisor 3 = .ok (.lload_n 2, 1) := by decide +kernel
theorem dX10_commonDivisor_4 : decode cX10_commonDivisor 4 = .ok (.lstore 6, 2) := by decide +kernel
theorem dX10_commonDivisor_6 : decode cX10_commonDivisor 6 = .ok (.iconst 0, 1) := by decide +kernel
theorem dX10_commonDivisor_7 : decode cX10_commonDivisor 7 = .ok (.istore 8, 2) := by decide +kernel
theorem dX10_commonDivisor_9 : decode cX10_commonDivisor 9 = .ok (.iload 8, 2) := by decide +kernel
theorem dX10_commonDivisor_11 : decode cX10_commonDivisor 11 = .ok (.bipush 100, 2) := by decide +kernel
theorem dX10_commonDivisor_13 : decode cX10_commonDivisor 13 = .ok (.if_icmp .ge 31, 3) := by decide +kernel
theorem dX10_commonDivisor_16 : decode cX10_commonDivisor 16 = .ok (.lload 6, 2) := by decide +kernel
theorem dX10_commonDivisor_18 : decode cX10_commonDivisor 18 = .ok (.lconst 0, 1) := by decide +kernel
theorem dX10_commonDivisor_19 : decode cX10_commonDivisor 19 = .ok (.lcmp, 1) := by decide +kernel
theorem dX10_commonDivisor_20 : decode cX10_commonDivisor 20 = .ok (.ifCond .eq 24, 3) := by decide +kernel
theorem dX10_commonDivisor_23 : decode cX10_commonDivisor 23 = .ok (.lload 4, 2) := by decide +kernel
theorem dX10_commonDivisor_25 : decode cX10_commonDivisor 25 = .ok (.lload 6, 2) := by decide +kernel
theorem dX10_commonDivisor_27 : decode cX10_commonDivisor 27 = .ok (.lrem, 1) := by decide +kernel
theorem dX10_commonDivisor_28 : decode cX10_commonDivisor 28 = .ok (.lstore 9, 2) := by decide +kernel
theorem dX10_commonDivisor_30 : decode cX10_commonDivisor 30 = .ok (.lload 6, 2) := by decide +kernel
theorem dX10_commonDivisor_32 : decode cX10_commonDivisor 32 = .ok (.lstore 4, 2) := by decide +kernel
theorem dX10_commonDivisor_34 : decode cX10_commonDivisor 34 = .ok (.lload 9, 2) := by decide +kernel
theorem dX10_commonDivisor_36 : decode cX10_commonDivisor 36 = .ok (.lstore 6, 2) := by decide +kernel
theorem dX10_commonDivisor_38 : decode cX10_commonDivisor 38 = .ok (.iinc 8 1, 3) := by decide +kernel
theorem dX10_commonDivisor_41 : decode cX10_commonDivisor 41 = .ok (.goto (-32), 3) := by decide +kernel
theorem dX10_commonDivisor_44 : decode cX10_commonDivisor 44 = .ok (.lload 4, 2) := by decide +kernel
theorem dX10_commonDivisor_46 : decode cX10_commonDivisor 46 = .ok (.lreturn, 1) := by decide +kernel
theorem dX10_term_0 : decode cX10_term 0 = .ok (.aload_n 0, 1) := by decide +kernel
theorem dX10_term_1 : decode cX10_term 1 = .ok (.getfield 9, 3) := by decide +kernel
theorem dX10_term_4 : decode cX10_term 4 = .ok (.iload_n 1, 1) := by decide +kernel
theorem dX10_term_5 : decode cX10_term 5 = .ok (.laload, 1) := by decide +kernel
theorem dX10_term_6 : decode cX10_term 6 = .ok (.aload_n 0, 1) := by decide +kernel
theorem dX10_term_7 : decode cX10_term 7 = .ok (.getfield 15, 3) := by decide +kernel
theorem dX10_term_10 : decode cX10_term 10 = .ok (.invokestatic 19, 3) := by decide +kernel
theorem dX10_term_13 : decode cX10_term 13 = .ok (.lstore_n 3, 1) := by decide +kernel
theorem dX10_term_14 : decode cX10_term 14 = .ok (.lload_n 3, 1) := by decide +kernel
theorem dX10_term_15 : decode cX10_term 15 = .ok (.lconst 1, 1) := by decide +kernel
theorem dX10_term_16 : decode cX10_term 16 = .ok (.lcmp, 1) := by decide +kernel
theorem dX10_term_17 : decode cX10_term 17 = .ok (.ifCond .ge 5, 3) := by decide +kernel
theorem dX10_term_20 : decode cX10_term 20 = .ok (.lconst 0, 1) := by decide +kernel
theorem dX10_term_21 : decode cX10_term 21 = .ok (.lreturn, 1) := by decide +kernel
theorem dX10_term_22 : decode cX10_term 22 = .ok (.iload_n 2, 1) := by decide +kernel
theorem dX10_term_23 : decode cX10_term 23 = .ok (.ifCond .ne 12, 3) := by decide +kernel
theorem dX10_term_26 : decode cX10_term 26 = .ok (.aload_n 0, 1) := by decide +kernel
theorem dX10_term_27 : decode cX10_term 27 = .ok (.getfield 9, 3) := by decide +kernel
theorem dX10_term_30 : decode cX10_term 30 = .ok (.iload_n 1, 1) := by decide +kernel
theorem dX10_term_31 : decode cX10_term 31 = .ok (.laload, 1) := by decide +kernel
theorem dX10_term_32 : decode cX10_term 32 = .ok (.goto 7, 3) := by decide +kernel
theorem dX10_term_35 : decode cX10_term 35 = .ok (.aload_n 0, 1) := by decide +kernel
theorem dX10_term_36 : decode cX10_term 36 = .ok (.getfield 15, 3) := by decide +kernel
theorem dX10_term_39 : decode cX10_term 39 = .ok (.lload_n 3, 1) := by decide +kernel
theorem dX10_term_40 : decode cX10_term 40 = .ok (.ldiv, 1) := by decide +kernel
theorem dX10_term_41 : decode cX10_term 41 = .ok (.lreturn, 1) := by decide +kernel
theorem dX2_copyFrom_0 : decode cX2_copyFrom 0 = .ok (.aload_n 0, 1) := by decide +kernel
theorem dX2_copyFrom_1 : decode cX2_copyFrom 1 = .ok (.aload_n 1, 1) := by decide +kernel
theorem dX2_copyFrom_2 : decode cX2_copyFrom 2 = .ok (.getfield 33, 3) := by decide +kernel
theorem dX2_copyFrom_5 : decode cX2_copyFrom 5 = .ok (.putfield 33, 3) := by decide +kernel
theorem dX2_copyFrom_8 : decode cX2_copyFrom 8 = .ok (.aload_n 1, 1) := by decide +kernel
theorem dX2_copyFrom_9 : decode cX2_copyFrom 9 = .ok (.getfield 9, 3) := by decide +kernel
theorem dX2_copyFrom_12 : decode cX2_copyFrom 12 = .ok (.iconst 0, 1) := by decide +kernel
theorem dX2_copyFrom_13 : decode cX2_copyFrom 13 = .ok (.aload_n 0, 1) := by decide +kernel
theorem dX2_copyFrom_14 : decode cX2_copyFrom 14 = .ok (.getfield 9, 3) := by decide +kernel
theorem dX2_copyFrom_17 : decode cX2_copyFrom 17 = .ok (.iconst 0, 1) := by decide +kernel
theorem dX2_copyFrom_18 : decode cX2_copyFrom 18 = .ok (.bipush 12, 2) := by decide +kernel
theorem dX2_copyFrom_20 : decode cX2_copyFrom 20 = .ok (.invokestatic 37, 3) := by decide +kernel
theorem dX2_copyFrom_23 : decode cX2_copyFrom 23 = .ok (.aload_n 1, 1) := by decide +kernel
theorem dX2_copyFrom_24 : decode cX2_copyFrom 24 = .ok (.getfield 15, 3) := by decide +kernel
theorem dX2_copyFrom_27 : decode cX2_copyFrom 27 = .ok (.iconst 0, 1) := by decide +kernel
theorem dX2_copyFrom_28 : decode cX2_copyFrom 28 = .ok (.aload_n 0, 1) := by decide +kernel
theorem dX2_copyFrom_29 : decode cX2_copyFrom 29 = .ok (.getfield 15, 3) := by decide +kernel
theorem dX2_copyFrom_32 : decode cX2_copyFrom 32 = .ok (.iconst 0, 1) := by decide +kernel
theorem dX2_copyFrom_33 : decode cX2_copyFrom 33 = .ok (.bipush 12, 2) := by decide +kernel
theorem dX2_copyFrom_35 : decode cX2_copyFrom 35 = .ok (.invokestatic 37, 3) := by decide +kernel
theorem dX2_copyFrom_38 : decode cX2_copyFrom 38 = .ok (.aload_n 1, 1) := by decide +kernel
theorem dX2_copyFrom_39 : decode cX2_copyFrom 39 = .ok (.getfield 18, 3) := by decide +kernel
theorem dX2_copyFrom_42 : decode cX2_copyFrom 42 = .ok (.iconst 0, 1) := by decide +kernel
theorem dX2_copyFrom_43 : decode cX2_copyFrom 43 = .ok (.aload_n 0, 1) := by decide +kernel
theorem dX2_copyFrom_44 : decode cX2_copyFrom 44 = .ok (.getfield 18, 3) := by decide +kernel
theorem dX2_copyFrom_47 : decode cX2_copyFrom 47 = .ok (.iconst 0, 1) := by decide +kernel
theorem dX2_copyFrom_48 : decode cX2_copyFrom 48 = .ok (.bipush 12, 2) := by decide +kernel
theorem dX2_copyFrom_50 : decode cX2_copyFrom 50 = .ok (.invokestatic 37, 3) := by decide +kernel
theorem dX2_copyFrom_53 : decode cX2_copyFrom 53 = .ok (.aload_n 1, 1) := by decide +kernel
theorem dX2_copyFrom_54 : decode cX2_copyFrom 54 = .ok (.getfield 21, 3) := by decide +kernel
theorem dX2_copyFrom_57 : decode cX2_copyFrom 57 = .ok (.iconst 0, 1) := by decide +kernel
theorem dX2_copyFrom_58 : decode cX2_copyFrom 58 = .ok (.aload_n 0, 1) := by decide +kernel
theorem dX2_copyFrom_59 : decode cX2_copyFrom 59 = .ok (.getfield 21, 3) := by decide +kernel
theorem dX2_copyFrom_62 : decode cX2_copyFrom 62 = .ok (.iconst 0, 1) := by decide +kernel
theorem dX2_copyFrom_63 : decode cX2_copyFrom 63 = .ok (.bipush 12, 2) := by decide +kernel
theorem dX2_copyFrom_65 : decode cX2_copyFrom 65 = .ok (.invokestatic 37, 3) := by decide +kernel
theorem dX2_copyFrom_68 : decode cX2_copyFrom 68 = .ok (.aload_n 1, 1) := by decide +kernel
theorem dX2_copyFrom_69 : decode cX2_copyFrom 69 = .ok (.getfield 24, 3) := by decide +kernel
theorem dX2_copyFrom_72 : decode cX2_copyFrom 72 = .ok (.iconst 0, 1) := by decide +kernel
theorem dX2_copyFrom_73 : decode cX2_copyFrom 73 = .ok (.aload_n 0, 1) := by decide +kernel
theorem dX2_copyFrom_74 : decode cX2_copyFrom 74 = .ok (.getfield 24, 3) := by decide +kernel
theorem dX2_copyFrom_77 : decode cX2_copyFrom 77 = .ok (.iconst 0, 1) := by decide +kernel
theorem dX2_copyFrom_78 : decode cX2_copyFrom 78 = .ok (.bipush 12, 2) := by decide +kernel
theorem dX2_copyFrom_80 : decode cX2_copyFrom 80 = .ok (.invokestatic 37, 3) := by decide +kernel
theorem dX2_copyFrom_83 : decode cX2_copyFrom 83 = .ok (.aload_n 1, 1) := by decide +kernel
theorem dX2_copyFrom_84 : decode cX2_copyFrom 84 = .ok (.getfield 27, 3) := by decide +kernel
theorem dX2_copyFrom_87 : decode cX2_copyFrom 87 = .ok (.iconst 0, 1) := by decide +kernel
theorem dX2_copyFrom_88 : decode cX2_copyFrom 88 = .ok (.aload_n 0, 1) := by decide +kernel
theorem dX2_copyFrom_89 : decode cX2_copyFrom 89 = .ok (.getfield 27, 3) := by decide +kernel
theorem dX2_copyFrom_92 : decode cX2_copyFrom 92 = .ok (.iconst 0, 1) := by decide +kernel
theorem dX2_copyFrom_93 : decode cX2_copyFrom 93 = .ok (.bipush 36, 2) := by decide +kernel
theorem dX2_copyFrom_95 : decode cX2_copyFrom 95 = .ok (.invokestatic 37, 3) := by decide +kernel
theorem dX2_copyFrom_98 : decode cX2_copyFrom 98 = .ok (.aload_n 1, 1) := by decide +kernel
theorem dX2_copyFrom_99 : decode cX2_copyFrom 99 = .ok (.getfield 30, 3) := by decide +kernel
theorem dX2_copyFrom_102 : decode cX2_copyFrom 102 = .ok (.iconst 0, 1) := by decide +kernel
theorem dX2_copyFrom_103 : decode cX2_copyFrom 103 = .ok (.aload_n 0, 1) := by decide +kernel
theorem dX2_copyFrom_104 : decode cX2_copyFrom 104 = .ok (.getfield 30, 3) := by decide +kernel
theorem dX2_copyFrom_107 : decode cX2_copyFrom 107 = .ok (.iconst 0, 1) := by decide +kernel
theorem dX2_copyFrom_108 : decode cX2_copyFrom 108 = .ok (.bipush 36, 2) := by decide +kernel
theorem dX2_copyFrom_110 : decode cX2_copyFrom 110 = .ok (.invokestatic 37, 3) := by decide +kernel
theorem dX2_copyFrom_113 : decode cX2_copyFrom 113 = .ok (.return_, 1) := by decide +kernel
theorem dX8_append_0 : decode cX8_append 0 = .ok (.bipush 24, 2) := by decide +kernel
theorem dX8_append_2 : decode cX8_append 2 = .ok (.istore_n 2, 1) := by decide +kernel
theorem dX8_append_3 : decode cX8_append 3 = .ok (.iload_n 2, 1) := by decide +kernel
theorem dX8_append_4 : decode cX8_append 4 = .ok (.ifCond .lt 45, 3) := by decide +kernel
theorem dX8_append_7 : decode cX8_append 7 = .ok (.aload_n 0, 1) := by decide +kernel
theorem dX8_append_8 : decode cX8_append 8 = .ok (.getfield 15, 3) := by decide +kernel
theorem dX8_append_11 : decode cX8_append 11 = .ok (.sipush 440, 3) := by decide +kernel
theorem dX8_append_14 : decode cX8_append 14 = .ok (.if_icmp .ge 29, 3) := by decide +kernel
theorem dX8_append_17 : decode cX8_append 17 = .ok (.aload_n 0, 1) := by decide +kernel
theorem dX8_append_18 : decode cX8_append 18 = .ok (.getfield 9, 3) := by decide +kernel
theorem dX8_append_21 : decode cX8_append 21 = .ok (.aload_n 0, 1) := by decide +kernel
theorem dX8_append_22 : decode cX8_append 22 = .ok (.getfield 15, 3) := by decide +kernel
theorem dX8_append_25 : decode cX8_append 25 = .ok (.iload_n 1, 1) := by decide +kernel
theorem dX8_append_26 : decode cX8_append 26 = .ok (.iload_n 2, 1) := by decide +kernel
theorem dX8_append_27 : decode cX8_append 27 = .ok (.iushr, 1) := by decide +kernel
theorem dX8_append_28 : decode cX8_append 28 = .ok (.sipush 255, 3) := by decide +kernel
theorem dX8_append_31 : decode cX8_append 31 = .ok (.iand, 1) := by decide +kernel
theorem dX8_append_32 : decode cX8_append 32 = .ok (.iastore, 1) := by decide +kernel
theorem dX8_append_33 : decode cX8_append 33 = .ok (.aload_n 0, 1) := by decide +kernel
theorem dX8_append_34 : decode cX8_append 34 = .ok (.dup, 1) := by decide +kernel
theorem dX8_append_35 : decode cX8_append 35 = .ok (.getfield 15, 3) := by decide +kernel
theorem dX8_append_38 : decode cX8_append 38 = .ok (.iconst 1, 1) := by decide +kernel
theorem dX8_append_39 : decode cX8_append 39 = .ok (.iadd, 1) := by decide +kernel
theorem dX8_append_40 : decode cX8_append 40 = .ok (.putfield 15, 3) := by decide +kernel
theorem dX8_append_43 : decode cX8_append 43 = .ok (.iinc 2 (-8), 3) := by decide +kernel
theorem dX8_append_46 : decode cX8_append 46 = .ok (.goto (-43), 3) := by decide +kernel
theorem dX8_append_49 : decode cX8_append 49 = .ok (.return_, 1) := by decide +kernel
theorem dX8_denominator_0 : decode cX8_denominator 0 = .ok (.aload_n 0, 1) := by decide +kernel
theorem dX8_denominator_1 : decode cX8_denominator 1 = .ok (.getfield 9, 3) := by decide +kernel
theorem dX8_denominator_4 : decode cX8_denominator 4 = .ok (.iconst 2, 1) := by decide +kernel
theorem dX8_denominator_5 : decode cX8_denominator 5 = .ok (.iload_n 1, 1) := by decide +kernel
theorem dX8_denominator_6 : decode cX8_denominator 6 = .ok (.imul, 1) := by decide +kernel
theorem dX8_denominator_7 : decode cX8_denominator 7 = .ok (.iconst 1, 1) := by decide +kernel
theorem dX8_denominator_8 : decode cX8_denominator 8 = .ok (.iadd, 1) := by decide +kernel
theorem dX8_denominator_9 : decode cX8_denominator 9 = .ok (.iaload, 1) := by decide +kernel
theorem dX8_denominator_10 : decode cX8_denominator 10 = .ok (.i2l, 1) := by decide +kernel
theorem dX8_denominator_11 : decode cX8_denominator 11 = .ok (.lreturn, 1) := by decide +kernel
theorem dX8_numerator_0 : decode cX8_numerator 0 = .ok (.aload_n 0, 1) := by decide +kernel
theorem dX8_numerator_1 : decode cX8_numerator 1 = .ok (.getfield 9, 3) := by decide +kernel
theorem dX8_numerator_4 : decode cX8_numerator 4 = .ok (.iconst 2, 1) := by decide +kernel
theorem dX8_numerator_5 : decode cX8_numerator 5 = .ok (.iload_n 1, 1) := by decide +kernel
theorem dX8_numerator_6 : decode cX8_numerator 6 = .ok (.imul, 1) := by decide +kernel
theorem dX8_numerator_7 : decode cX8_numerator 7 = .ok (.iaload, 1) := by decide +kernel
theorem dX8_numerator_8 : decode cX8_numerator 8 = .ok (.i2l, 1) := by decide +kernel
theorem dX8_numerator_9 : decode cX8_numerator 9 = .ok (.lreturn, 1) := by decide +kernel
theorem dX8_tellsFractions_0 : decode cX8_tellsFractions 0 = .ok (.aload_n 0, 1) := by decide +kernel
theorem dX8_tellsFractions_1 : decode cX8_tellsFractions 1 = .ok (.getfield 15, 3) := by decide +kernel
theorem dX8_tellsFractions_4 : decode cX8_tellsFractions 4 = .ok (.iconst 2, 1) := by decide +kernel
theorem dX8_tellsFractions_5 : decode cX8_tellsFractions 5 = .ok (.iload_n 1, 1) := by decide +kernel
theorem dX8_tellsFractions_6 : decode cX8_tellsFractions 6 = .ok (.imul, 1) := by decide +kernel
theorem dX8_tellsFractions_7 : decode cX8_tellsFractions 7 = .ok (.if_icmp .eq 5, 3) := by decide +kernel
theorem dX8_tellsFractions_10 : decode cX8_tellsFractions 10 = .ok (.iconst 0, 1) := by decide +kernel
theorem dX8_tellsFractions_11 : decode cX8_tellsFractions 11 = .ok (.ireturn, 1) := by decide +kernel
theorem dX8_tellsFractions_12 : decode cX8_tellsFractions 12 = .ok (.iconst 0, 1) := by decide +kernel
theorem dX8_tellsFractions_13 : decode cX8_tellsFractions 13 = .ok (.istore_n 2, 1) := by decide +kernel
theorem dX8_tellsFractions_14 : decode cX8_tellsFractions 14 = .ok (.iload_n 2, 1) := by decide +kernel
theorem dX8_tellsFractions_15 : decode cX8_tellsFractions 15 = .ok (.iload_n 1, 1) := by decide +kernel
theorem dX8_tellsFractions_16 : decode cX8_tellsFractions 16 = .ok (.if_icmp .ge 53, 3) := by decide +kernel
theorem dX8_tellsFractions_19 : decode cX8_tellsFractions 19 = .ok (.aload_n 0, 1) := by decide +kernel
theorem dX8_tellsFractions_20 : decode cX8_tellsFractions 20 = .ok (.getfield 9, 3) := by decide +kernel
theorem dX8_tellsFractions_23 : decode cX8_tellsFractions 23 = .ok (.iconst 2, 1) := by decide +kernel
theorem dX8_tellsFractions_24 : decode cX8_tellsFractions 24 = .ok (.iload_n 2, 1) := by decide +kernel
theorem dX8_tellsFractions_25 : decode cX8_tellsFractions 25 = .ok (.imul, 1) := by decide +kernel
theorem dX8_tellsFractions_26 : decode cX8_tellsFractions 26 = .ok (.iaload, 1) := by decide +kernel
theorem dX8_tellsFractions_27 : decode cX8_tellsFractions 27 = .ok (.bipush 127, 2) := by decide +kernel
theorem dX8_tellsFractions_29 : decode cX8_tellsFractions 29 = .ok (.if_icmp .gt 32, 3) := by decide +kernel
theorem dX8_tellsFractions_32 : decode cX8_tellsFractions 32 = .ok (.aload_n 0, 1) := by decide +kernel
theorem dX8_tellsFractions_33 : decode cX8_tellsFractions 33 = .ok (.getfield 9, 3) := by decide +kernel
theorem dX8_tellsFractions_36 : decode cX8_tellsFractions 36 = .ok (.iconst 2, 1) := by decide +kernel
theorem dX8_tellsFractions_37 : decode cX8_tellsFractions 37 = .ok (.iload_n 2, 1) := by decide +kernel
theorem dX8_tellsFractions_38 : decode cX8_tellsFractions 38 = .ok (.imul, 1) := by decide +kernel
theorem dX8_tellsFractions_39 : decode cX8_tellsFractions 39 = .ok (.iconst 1, 1) := by decide +kernel
theorem dX8_tellsFractions_40 : decode cX8_tellsFractions 40 = .ok (.iadd, 1) := by decide +kernel
theorem dX8_tellsFractions_41 : decode cX8_tellsFractions 41 = .ok (.iaload, 1) := by decide +kernel
theorem dX8_tellsFractions_42 : decode cX8_tellsFractions 42 = .ok (.bipush 127, 2) := by decide +kernel
theorem dX8_tellsFractions_44 : decode cX8_tellsFractions 44 = .ok (.if_icmp .gt 17, 3) := by decide +kernel
theorem dX8_tellsFractions_47 : decode cX8_tellsFractions 47 = .ok (.aload_n 0, 1) := by decide +kernel
theorem dX8_tellsFractions_48 : decode cX8_tellsFractions 48 = .ok (.getfield 9, 3) := by decide +kernel
theorem dX8_tellsFractions_51 : decode cX8_tellsFractions 51 = .ok (.iconst 2, 1) := by decide +kernel
theorem dX8_tellsFractions_52 : decode cX8_tellsFractions 52 = .ok (.iload_n 2, 1) := by decide +kernel
theorem dX8_tellsFractions_53 : decode cX8_tellsFractions 53 = .ok (.imul, 1) := by decide +kernel
theorem dX8_tellsFractions_54 : decode cX8_tellsFractions 54 = .ok (.iconst 1, 1) := by decide +kernel
theorem dX8_tellsFractions_55 : decode cX8_tellsFractions 55 = .ok (.iadd, 1) := by decide +kernel
theorem dX8_tellsFractions_56 : decode cX8_tellsFractions 56 = .ok (.iaload, 1) := by decide +kernel
theorem dX8_tellsFractions_57 : decode cX8_tellsFractions 57 = .ok (.iconst 1, 1) := by decide +kernel
theorem dX8_tellsFractions_58 : decode cX8_tellsFractions 58 = .ok (.if_icmp .ge 5, 3) := by decide +kernel
theorem dX8_tellsFractions_61 : decode cX8_tellsFractions 61 = .ok (.iconst 0, 1) := by decide +kernel
theorem dX8_tellsFractions_62 : decode cX8_tellsFractions 62 = .ok (.ireturn, 1) := by decide +kernel
theorem dX8_tellsFractions_63 : decode cX8_tellsFractions 63 = .ok (.iinc 2 1, 3) := by decide +kernel
theorem dX8_tellsFractions_66 : decode cX8_tellsFractions 66 = .ok (.goto (-52), 3) := by decide +kernel
theorem dX8_tellsFractions_69 : decode cX8_tellsFractions 69 = .ok (.iconst 1, 1) := by decide +kernel
theorem dX8_tellsFractions_70 : decode cX8_tellsFractions 70 = .ok (.ireturn, 1) := by decide +kernel
set_option maxHeartbeats 4000000 in
set_option maxRecDepth 100000 in
theorem c_X10_commonDivisor (l : Launch) (D : va_G) (g : Nat → ClassId) (a0 : Int64) (a1 : Int64) : Met l yX10_commonDivisor (.code yX10_commonDivisor cX10_commonDivisor 11 (some .long) :: wsL_law) ({ frames := 0, cells := 0, slots := 0, locals := 0 }) (va_Pc [.long a0, .long a1] (fun U => va_P D vwCl [] U.heap ∧ va_K D vwCl (TY g) U)) (vp_Sl (fun r => True)) 0 0 (fun _ => False) := by
  refine Met.ofW (cc := cX10_commonDivisor) (maxL := 11) (ret := (some .long)) (by decide) rfl ?_
  intro p e s m args below meth c s₁ B hml hv
  obtain ⟨ha, hP, hK⟩ := hv
  have hx := B.exec
  have hb := B.bytes
  have hr := B.returns
  have hts0 := atoms_spec (ws := (.code yX10_commonDivisor cX10_commonDivisor 11 (some .long) :: wsL_law)) B.pre
  have hts : ∀ w ∈ wsL_law, w.before args s = true := fun w h => hts0 w (List.mem_cons_of_mem _ h)
  have hown : s.vm.findClass RX10 = some m.cls := findClass_of_methodNamed B.named
  have hlocks := B.notSynchronized
  have hP : va_P D vwCl [] s.heap := hP
  refine W.eq (g2 := entryFrame m ([.long a0, .long a1] : List Value).toArray 11) (by rw [ha]) ?_
  have hl := lv_entry ([.long a0, .long a1]) (n := 11) (Nat.le_of_ble_eq_true rfl)
  rw [lg_entry_eq]
  generalize (lg_sl ([.long a0, .long a1]) ++ List.replicate (11 - (lg_sl ([.long a0, .long a1])).length) Slot.unset).toArray = ls at hl ⊢
  have hl : lv_has ls 11 [(0, .long a0), (2, .long a1)] := hl
  refine lv_lload_n hx hb dX10_commonDivisor_0 rfl (lv_at hl 0 rfl) ?_
  refine lv_lstore (lv' := [(4, .long a0), (0, .long a0), (2, .long a1)]) hx hb dX10_commonDivisor_1 hl (by decide) rfl (fun ls hl => ?_)
  refine lv_lload_n hx hb dX10_commonDivisor_3 rfl (lv_at hl 2 rfl) ?_
  refine lv_lstore (lv' := [(6, .long a1), (4, .long a0), (0, .long a0), (2, .long a1)]) hx hb dX10_commonDivisor_4 hl (by decide) rfl (fun ls hl => ?_)
  refine lv_iconst (v := 0) hx hb dX10_commonDivisor_6 (by decide) ?_
  refine lv_istore (lv' := [(8, .int 0), (6, .long a1), (4, .long a0), (0, .long a0), (2, .long a1)]) hx hb dX10_commonDivisor_7 hl (by decide) rfl (fun ls hl => ?_)
  have lp_59673 : ∀ (n_59673 : Nat) (x_59670 : Int32) (x_59671 : Int64) (x_59672 : Int64) (ls : Array Slot), (0 ≤ (x_59670 : Int32).toInt ∧ (x_59670 : Int32).toInt ≤ 100) → (100 - x_59670.toInt < (n_59673 : Int)) → lv_has ls 11 [(8, .int x_59670), (6, .long x_59671), (4, .long x_59672), (0, .long a0), (2, .long a1)] → W p l e (headSpec (.code yX10_commonDivisor cX10_commonDivisor 11 (some .long) :: wsL_law) ({ frames := 0, cells := 0, slots := 0, locals := 0 })).room s m args below meth c s.heap [] 0 0 (MQ below (vp_Sl (fun r => True)) args s 0 0 (fun _ => False)) (F0 m 9 ls []) := by
    intro n_59673
    induction n_59673 with
    | zero =>
      intro x_59670 x_59671 x_59672 ls h_x_59670 hm_59673 hl
      exfalso; omega
    | succ n_59673 ih_59673 =>
      intro x_59670 x_59671 x_59672 ls h_x_59670 hm_59673 hl
      refine lv_iload hx hb dX10_commonDivisor_9 (lv_at hl 0 rfl) ?_
      refine lv_bipush (v := 100) hx hb dX10_commonDivisor_11 (by decide) ?_
      refine lv_icmp_ge (tgt := 44) hx hb dX10_commonDivisor_13 (by decide) (fun c_59674 => ?_) (fun c_59674 => ?_)
      · skip
        have c_59674_i := Int32.le_iff_toInt_le.mp c_59674
        have h_59675 : 100 ≤ (x_59670 : Int32).toInt ∧ (x_59670 : Int32).toInt ≤ 100 := nr_le_r (⟨by decide, by decide⟩ : 100 ≤ (100 : Int32).toInt ∧ (100 : Int32).toInt ≤ 100) h_x_59670 c_59674_i (by decide) (by decide)
        refine lv_lload hx hb dX10_commonDivisor_44 (lv_at hl 2 rfl) ?_
        exact W.lret (v := x_59672) hx hb hr (fun t ht hW => ⟨x_59672, rfl, trivial, ht⟩) (fun _ h => nomatch h) dX10_commonDivisor_46
      · skip
        have c_59674_i := Int32.lt_iff_toInt_lt.mp (Int32.not_le.mp c_59674)
        have h_59676 : 0 ≤ (x_59670 : Int32).toInt ∧ (x_59670 : Int32).toInt ≤ 99 := nr_lt_l h_x_59670 (⟨by decide, by decide⟩ : 100 ≤ (100 : Int32).toInt ∧ (100 : Int32).toInt ≤ 100) c_59674_i (by decide) (by decide)
        refine lv_lload hx hb dX10_commonDivisor_16 (lv_at hl 1 rfl) ?_
        refine lv_lconst (v := 0) hx hb dX10_commonDivisor_18 (by decide) ?_
        refine W.lcmp hx hb dX10_commonDivisor_19 ?_
        refine lv_topi (fun v_59677 v_59677_e => ?_)
        have h_v_59677 : (-1) ≤ (v_59677 : Int32).toInt ∧ (v_59677 : Int32).toInt ≤ 1 := by rw [v_59677_e]; exact tr_cmp _ _
        refine lv_if_eq (tgt := 44) hx hb dX10_commonDivisor_20 (by decide) (fun c_59678 => ?_) (fun c_59678 => ?_)
        · skip
          have c_59678_i : (v_59677 : Int32).toInt = (0 : Int32).toInt := congrArg Int32.toInt c_59678
          have h_59679 : 0 ≤ (v_59677 : Int32).toInt ∧ (v_59677 : Int32).toInt ≤ 0 := nr_eq_l h_v_59677 (⟨by decide, by decide⟩ : 0 ≤ (0 : Int32).toInt ∧ (0 : Int32).toInt ≤ 0) c_59678_i (by decide) (by decide)
          refine lv_lload hx hb dX10_commonDivisor_44 (lv_at hl 2 rfl) ?_
          exact W.lret (v := x_59672) hx hb hr (fun t ht hW => ⟨x_59672, rfl, trivial, ht⟩) (fun _ h => nomatch h) dX10_commonDivisor_46
        · skip
          have z_59680 : ¬ x_59671 = 0 := tr_cmp0 (by rw [← v_59677_e]; exact c_59678)
          refine lv_lload hx hb dX10_commonDivisor_23 (lv_at hl 2 rfl) ?_
          refine lv_lload hx hb dX10_commonDivisor_25 (lv_at hl 1 rfl) ?_
          refine lv_lrem hx hb dX10_commonDivisor_27 z_59680 ?_
          refine lv_topl (fun w_59681 _ => ?_)
          refine lv_lstore (lv' := [(9, .long w_59681), (8, .int x_59670), (6, .long x_59671), (4, .long x_59672), (0, .long a0), (2, .long a1)]) hx hb dX10_commonDivisor_28 hl (by decide) rfl (fun ls hl => ?_)
          refine lv_lload hx hb dX10_commonDivisor_30 (lv_at hl 2 rfl) ?_
          refine lv_lstore (lv' := [(4, .long x_59671), (9, .long w_59681), (8, .int x_59670), (6, .long x_59671), (0, .long a0), (2, .long a1)]) hx hb dX10_commonDivisor_32 hl (by decide) rfl (fun ls hl => ?_)
          refine lv_lload hx hb dX10_commonDivisor_34 (lv_at hl 1 rfl) ?_
          refine lv_lstore (lv' := [(6, .long w_59681), (4, .long x_59671), (9, .long w_59681), (8, .int x_59670), (0, .long a0), (2, .long a1)]) hx hb dX10_commonDivisor_36 hl (by decide) rfl (fun ls hl => ?_)
          obtain ⟨v_59682, v_59682_e⟩ : ∃ y : Int32, y = x_59670 + Int32.ofInt 1 := ⟨_, rfl⟩
          have h_v_59682 : 1 ≤ (v_59682 : Int32).toInt ∧ (v_59682 : Int32).toInt ≤ 100 := by rw [v_59682_e]; exact tr_add h_59676 (⟨by decide, by decide⟩ : 1 ≤ (Int32.ofInt 1 : Int32).toInt ∧ (Int32.ofInt 1 : Int32).toInt ≤ 1) (by decide) (by decide) (by decide) (by decide)
          have q_v_59682 : v_59682.toInt = x_59670.toInt + 1 := by rw [v_59682_e]; exact tr_addE h_59676 (⟨by decide, by decide⟩ : 1 ≤ (Int32.ofInt 1 : Int32).toInt ∧ (Int32.ofInt 1 : Int32).toInt ≤ 1) (by decide) (by decide)
          refine lv_iinc (v := v_59682) (lv' := [(8, .int v_59682), (6, .long w_59681), (4, .long x_59671), (9, .long w_59681), (0, .long a0), (2, .long a1)]) hx hb dX10_commonDivisor_38 hl (k := 3) rfl v_59682_e.symm (by decide) rfl (fun ls hl => ?_)
          refine lv_goto (tgt := 9) hx hb dX10_commonDivisor_41 (by decide) ?_
          exact ih_59673 v_59682 w_59681 x_59671 ls (tr_w h_v_59682 (by decide) (by decide)) (by omega) (lv_sub hl [0, 1, 2, 4, 5] rfl)
  exact lp_59673 101 0 a1 a0 ls (⟨by decide, by decide⟩ : 0 ≤ (0 : Int32).toInt ∧ (0 : Int32).toInt ≤ 100) (by decide) (lv_sub hl [0, 1, 2, 3, 4] rfl)
set_option maxHeartbeats 4000000 in
set_option maxRecDepth 100000 in
theorem c_X10_term (l : Launch) (D : va_G) (g : Nat → ClassId) (vs : Nat) (p0 : Int32) (p1 : Int32) (vs_part : Nat) (vsw : Int64) (vsp : Nat → Int64) (h_p0 : 0 ≤ (p0 : Int32).toInt ∧ (p0 : Int32).toInt ≤ 11) : Met l yX10_term (.code yX10_term cX10_term 5 (some .long) :: wsL_law) ({ frames := 1, cells := 0, slots := 0, locals := 30 }) (va_Pc [.ref vs, .int p0, .int p1] (fun U => va_P D vwCl [(wO10 vs vs_part vsw), (wJ g vs_part 1 12 vsp)] U.heap ∧ va_K D vwCl (TY g) U)) (vp_Sl (fun r => True)) 0 0 (fun _ => False) := by
  refine Met.ofW (cc := cX10_term) (maxL := 5) (ret := (some .long)) (by decide) rfl ?_
  intro p e s m args below meth c s₁ B hml hv
  obtain ⟨ha, hP, hK⟩ := hv
  have hx := B.exec
  have hb := B.bytes
  have hr := B.returns
  have hts0 := atoms_spec (ws := (.code yX10_term cX10_term 5 (some .long) :: wsL_law)) B.pre
  have hts : ∀ w ∈ wsL_law, w.before args s = true := fun w h => hts0 w (List.mem_cons_of_mem _ h)
  have hown : s.vm.findClass RX10 = some m.cls := findClass_of_methodNamed B.named
  have hlocks := B.notSynchronized
  have hP : va_P D vwCl [(wO10 vs vs_part vsw), (wJ g vs_part 1 12 vsp)] s.heap := hP
  refine W.eq (g2 := entryFrame m ([.ref vs, .int p0, .int p1] : List Value).toArray 5) (by rw [ha]) ?_
  have hl := lv_entry ([.ref vs, .int p0, .int p1]) (n := 5) (Nat.le_of_ble_eq_true rfl)
  rw [lg_entry_eq]
  generalize (lg_sl ([.ref vs, .int p0, .int p1]) ++ List.replicate (5 - (lg_sl ([.ref vs, .int p0, .int p1])).length) Slot.unset).toArray = ls at hl ⊢
  have hl : lv_has ls 5 [(0, .ref vs), (1, .int p0), (2, .int p1)] := hl
  refine lv_aload_n hx hb dX10_term_0 rfl (lv_at hl 0 rfl) ?_
  refine va_get (D := D) (ci := 10) (v := .ref vs_part) (C := RX10) (T := TX10) (N := 2) hx hb hts inlX10 hown hK hP 0 rfl rfl 0 (by decide) (hts (Cond.fieldLink RX10 9 "ChanceRings$Values" "part" "[J") qw_334) (fun _ h9 => h9) rfl dX10_term_1 ?_
  refine lv_iload_n hx hb dX10_term_4 rfl (lv_at hl 1 rfl) ?_
  refine va_lald hx hb hK hP 1 1 rfl rfl (tr_in h_p0 (by decide) (by decide)) dX10_term_5 ?_
  refine lv_topl (fun w_59683 _ => ?_)
  refine lv_aload_n hx hb dX10_term_6 rfl (lv_at hl 0 rfl) ?_
  refine va_get (D := D) (ci := 10) (v := .long vsw) (C := RX10) (T := TX10) (N := 2) hx hb hts inlX10 hown hK hP 0 rfl rfl 1 (by decide) (hts (Cond.fieldLink RX10 15 "ChanceRings$Values" "whole" "J") qw_335) (fun _ h9 => h9) rfl dX10_term_7 ?_
  have hPc := hP.sub (ws' := []) [] rfl
  refine vp_callSl (va_Run.run (va_runS (As := [.long w_59683, .long vsw]) (rest := []) ⟨hx, hb, hml, hown, hts⟩ (c_X10_commonDivisor l D g w_59683 vsw) (va_cwS 2 hts (tz_gS qw_336 qw_337 qw_338 qw_339) rfl rfl rfl (by decide +kernel) ⟨Nat.le_of_ble_eq_true rfl, Nat.le_of_ble_eq_true rfl⟩) ⟨tz_blS, tz_preS hPc hK⟩ rfl rfl hl.1 rfl (lv_room (Nat.le_of_ble_eq_true rfl)) dX10_term_10 ⟨Nat.le_of_ble_eq_true rfl, Nat.le_of_ble_eq_true rfl⟩)) (fun r_59684 hw => ?_)
  refine lv_lstore_n (lv' := [(3, .long r_59684), (0, .ref vs), (1, .int p0), (2, .int p1)]) hx hb dX10_term_13 rfl hl (by decide) rfl (fun ls hl => ?_)
  refine lv_lload_n hx hb dX10_term_14 rfl (lv_at hl 0 rfl) ?_
  refine lv_lconst (v := 1) hx hb dX10_term_15 (by decide) ?_
  refine W.lcmp hx hb dX10_term_16 ?_
  refine lv_topi (fun v_59685 v_59685_e => ?_)
  have h_v_59685 : (-1) ≤ (v_59685 : Int32).toInt ∧ (v_59685 : Int32).toInt ≤ 1 := by rw [v_59685_e]; exact tr_cmp _ _
  refine lv_if_ge (tgt := 22) hx hb dX10_term_17 (by decide) (fun c_59686 => ?_) (fun c_59686 => ?_)
  · skip
    have z_59687 : ¬ r_59684 = 0 := tr_cmp1 (by rw [← v_59685_e]; exact c_59686)
    have c_59686_i := Int32.le_iff_toInt_le.mp c_59686
    have h_59688 : 0 ≤ (v_59685 : Int32).toInt ∧ (v_59685 : Int32).toInt ≤ 1 := nr_le_r (⟨by decide, by decide⟩ : 0 ≤ (0 : Int32).toInt ∧ (0 : Int32).toInt ≤ 0) h_v_59685 c_59686_i (by decide) (by decide)
    refine lv_iload_n hx hb dX10_term_22 rfl (lv_at hl 3 rfl) ?_
    refine lv_if_ne (tgt := 35) hx hb dX10_term_23 (by decide) (fun c_59690 => ?_) (fun c_59690 => ?_)
    · skip
      refine lv_aload_n hx hb dX10_term_35 rfl (lv_at hl 1 rfl) ?_
      refine va_get (D := D) (ci := 10) (v := .long vsw) (C := RX10) (T := TX10) (N := 2) hx hb hts inlX10 hown hK hP 0 rfl rfl 1 (by decide) (hts (Cond.fieldLink RX10 15 "ChanceRings$Values" "whole" "J") qw_335) (fun _ h9 => h9) rfl dX10_term_36 ?_
      refine lv_lload_n hx hb dX10_term_39 rfl (lv_at hl 0 rfl) ?_
      refine lv_ldiv hx hb dX10_term_40 z_59687 ?_
      refine lv_topl (fun w_59692 _ => ?_)
      exact W.lret (v := w_59692) hx hb hr (fun t ht hW => ⟨w_59692, rfl, trivial, ht⟩) (fun _ h => nomatch h) dX10_term_41
    · skip
      have h_59691 : 0 ≤ (p1 : Int32).toInt ∧ (p1 : Int32).toInt ≤ 0 := by rw [c_59690]; exact ⟨by decide, by decide⟩
      refine lv_aload_n hx hb dX10_term_26 rfl (lv_at hl 1 rfl) ?_
      refine va_get (D := D) (ci := 10) (v := .ref vs_part) (C := RX10) (T := TX10) (N := 2) hx hb hts inlX10 hown hK hP 0 rfl rfl 0 (by decide) (hts (Cond.fieldLink RX10 9 "ChanceRings$Values" "part" "[J") qw_334) (fun _ h9 => h9) rfl dX10_term_27 ?_
      refine lv_iload_n hx hb dX10_term_30 rfl (lv_at hl 2 rfl) ?_
      refine va_lald hx hb hK hP 1 1 rfl rfl (tr_in h_p0 (by decide) (by decide)) dX10_term_31 ?_
      refine lv_topl (fun w_59693 _ => ?_)
      refine lv_goto (tgt := 39) hx hb dX10_term_32 (by decide) ?_
      refine lv_lload_n hx hb dX10_term_39 rfl (lv_at hl 0 rfl) ?_
      refine lv_ldiv hx hb dX10_term_40 z_59687 ?_
      refine lv_topl (fun w_59694 _ => ?_)
      exact W.lret (v := w_59694) hx hb hr (fun t ht hW => ⟨w_59694, rfl, trivial, ht⟩) (fun _ h => nomatch h) dX10_term_41
  · skip
    have c_59686_i := Int32.lt_iff_toInt_lt.mp (Int32.not_le.mp c_59686)
    have h_59689 : (-1) ≤ (v_59685 : Int32).toInt ∧ (v_59685 : Int32).toInt ≤ (-1) := nr_lt_l h_v_59685 (⟨by decide, by decide⟩ : 0 ≤ (0 : Int32).toInt ∧ (0 : Int32).toInt ≤ 0) c_59686_i (by decide) (by decide)
    refine lv_lconst (v := 0) hx hb dX10_term_20 (by decide) ?_
    exact W.lret (v := 0) hx hb hr (fun t ht hW => ⟨0, rfl, trivial, ht⟩) (fun _ h => nomatch h) dX10_term_21
set_option maxHeartbeats 4000000 in
set_option maxRecDepth 100000 in
theorem c_X8_append (l : Launch) (D : va_G) (g : Nat → ClassId) (sz : Nat) (tp : Nat) (p0 : Int32) (tp_bytes : Nat) (tl : Int32) (tf : Nat → Int32) (h_tl : 0 ≤ (tl : Int32).toInt ∧ (tl : Int32).toInt ≤ 440) (h_tf : ∀ j : Nat, 0 ≤ (tf j).toInt ∧ (tf j).toInt ≤ 255) : Met l yX8_append (.code yX8_append cX8_append 3 none :: wsL_law) ({ frames := 0, cells := 0, slots := 0, locals := 0 }) (va_Pc [.ref tp, .int p0] (fun U => U.heap.size = sz ∧ va_P D vwCl [(wO8 tp tp_bytes tl), (wI g tp_bytes 0 440 tf)] U.heap ∧ va_K D vwCl (TY g) U ∧ va_D (fun _ => True) [(wO8 tp tp_bytes tl), (wI g tp_bytes 0 440 tf)])) (va_Qv (fun (_ : Unit) => True) (fun _ t => ∃ ol : Int32, ∃ og : Nat → Int32, (0 ≤ (ol : Int32).toInt ∧ (ol : Int32).toInt ≤ 440) ∧ (∀ j : Nat, 0 ≤ (og j).toInt ∧ (og j).toInt ≤ 255) ∧ va_P D vwCl [(wO8 tp tp_bytes ol), (wI g tp_bytes 0 440 og)] t.heap ∧ va_D (va_A [(wO8 tp tp_bytes tl), (wI g tp_bytes 0 440 tf)] sz) [(wO8 tp tp_bytes ol), (wI g tp_bytes 0 440 og)]) (va_A [(wO8 tp tp_bytes tl), (wI g tp_bytes 0 440 tf)] sz)) 0 0 (va_A [(wO8 tp tp_bytes tl), (wI g tp_bytes 0 440 tf)] sz) := by
  refine Met.ofW (cc := cX8_append) (maxL := 3) (ret := none) (by decide) rfl ?_
  intro p e s m args below meth c s₁ B hml hv
  obtain ⟨ha, hsz, hP, hK, hD0⟩ := hv
  have hx := B.exec
  have hb := B.bytes
  have hr := B.returns
  have hts0 := atoms_spec (ws := (.code yX8_append cX8_append 3 none :: wsL_law)) B.pre
  have hts : ∀ w ∈ wsL_law, w.before args s = true := fun w h => hts0 w (List.mem_cons_of_mem _ h)
  have hown : s.vm.findClass RX8 = some m.cls := findClass_of_methodNamed B.named
  have hlocks := B.notSynchronized
  subst hsz
  have hD := hD0.self (sz := s.heap.size)
  generalize hAe : va_A [(wO8 tp tp_bytes tl), (wI g tp_bytes 0 440 tf)] s.heap.size = A at hD ⊢
  have hA : ∀ q : Nat, s.heap.size ≤ q → A q := fun q h => by rw [← hAe]; exact Or.inr h
  have hS : va_S A s.heap s.heap [] := va_S.rf
  have hP : va_P D vwCl [(wO8 tp tp_bytes tl), (wI g tp_bytes 0 440 tf)] s.heap := hP
  refine W.eq (g2 := entryFrame m ([.ref tp, .int p0] : List Value).toArray 3) (by rw [ha]) ?_
  have hl := lv_entry ([.ref tp, .int p0]) (n := 3) (Nat.le_of_ble_eq_true rfl)
  rw [lg_entry_eq]
  generalize (lg_sl ([.ref tp, .int p0]) ++ List.replicate (3 - (lg_sl ([.ref tp, .int p0])).length) Slot.unset).toArray = ls at hl ⊢
  have hl : lv_has ls 3 [(0, .ref tp), (1, .int p0)] := hl
  refine lv_bipush (v := 24) hx hb dX8_append_0 (by decide) ?_
  refine lv_istore_n (lv' := [(2, .int 24), (0, .ref tp), (1, .int p0)]) hx hb dX8_append_2 rfl hl (by decide) rfl (fun ls hl => ?_)
  refine lv_iload_n hx hb dX8_append_3 rfl (lv_at hl 0 rfl) ?_
  refine lv_if_lt (tgt := 49) hx hb dX8_append_4 (by decide) (fun h9 => absurd h9 (by decide)) (fun _ => ?_)
  refine lv_aload_n hx hb dX8_append_7 rfl (lv_at hl 1 rfl) ?_
  refine va_get (D := D) (ci := 8) (v := .int tl) (C := RX8) (T := TX8) (N := 2) hx hb hts inlX8 hown hK hP 0 rfl rfl 1 (by decide) (hts (Cond.fieldLink RX8 15 "ChanceRings$Tape" "length" "I") qw_340) (fun _ h9 => h9) rfl dX8_append_8 ?_
  refine lv_sipush (v := 440) hx hb dX8_append_11 (by decide) ?_
  refine lv_icmp_ge (tgt := 43) hx hb dX8_append_14 (by decide) (fun c_59695 => ?_) (fun c_59695 => ?_)
  · skip
    have c_59695_i := Int32.le_iff_toInt_le.mp c_59695
    have h_59696 : 440 ≤ (tl : Int32).toInt ∧ (tl : Int32).toInt ≤ 440 := nr_le_r (⟨by decide, by decide⟩ : 440 ≤ (440 : Int32).toInt ∧ (440 : Int32).toInt ≤ 440) h_tl c_59695_i (by decide) (by decide)
    refine lv_iinc (v := 16) (lv' := [(2, .int 16), (0, .ref tp), (1, .int p0)]) hx hb dX8_append_43 hl (k := 0) rfl (by decide) (by decide) rfl (fun ls hl => ?_)
    refine lv_goto (tgt := 3) hx hb dX8_append_46 (by decide) ?_
    refine lv_iload_n hx hb dX8_append_3 rfl (lv_at hl 0 rfl) ?_
    refine lv_if_lt (tgt := 49) hx hb dX8_append_4 (by decide) (fun h9 => absurd h9 (by decide)) (fun _ => ?_)
    refine lv_aload_n hx hb dX8_append_7 rfl (lv_at hl 1 rfl) ?_
    refine va_get (D := D) (ci := 8) (v := .int tl) (C := RX8) (T := TX8) (N := 2) hx hb hts inlX8 hown hK hP 0 rfl rfl 1 (by decide) (hts (Cond.fieldLink RX8 15 "ChanceRings$Tape" "length" "I") qw_340) (fun _ h9 => h9) rfl dX8_append_8 ?_
    refine lv_sipush (v := 440) hx hb dX8_append_11 (by decide) ?_
    refine lv_icmp_ge (tgt := 43) hx hb dX8_append_14 (by decide) (fun c_59698 => ?_) (fun h9 => (nr_x_lt h_59696 (⟨by decide, by decide⟩ : 440 ≤ (440 : Int32).toInt ∧ (440 : Int32).toInt ≤ 440) (Int32.lt_iff_toInt_lt.mp (Int32.not_le.mp h9)) (by decide)).elim)
    refine lv_iinc (v := 8) (lv' := [(2, .int 8), (0, .ref tp), (1, .int p0)]) hx hb dX8_append_43 hl (k := 0) rfl (by decide) (by decide) rfl (fun ls hl => ?_)
    refine lv_goto (tgt := 3) hx hb dX8_append_46 (by decide) ?_
    refine lv_iload_n hx hb dX8_append_3 rfl (lv_at hl 0 rfl) ?_
    refine lv_if_lt (tgt := 49) hx hb dX8_append_4 (by decide) (fun h9 => absurd h9 (by decide)) (fun _ => ?_)
    refine lv_aload_n hx hb dX8_append_7 rfl (lv_at hl 1 rfl) ?_
    refine va_get (D := D) (ci := 8) (v := .int tl) (C := RX8) (T := TX8) (N := 2) hx hb hts inlX8 hown hK hP 0 rfl rfl 1 (by decide) (hts (Cond.fieldLink RX8 15 "ChanceRings$Tape" "length" "I") qw_340) (fun _ h9 => h9) rfl dX8_append_8 ?_
    refine lv_sipush (v := 440) hx hb dX8_append_11 (by decide) ?_
    refine lv_icmp_ge (tgt := 43) hx hb dX8_append_14 (by decide) (fun c_59699 => ?_) (fun h9 => (nr_x_lt h_59696 (⟨by decide, by decide⟩ : 440 ≤ (440 : Int32).toInt ∧ (440 : Int32).toInt ≤ 440) (Int32.lt_iff_toInt_lt.mp (Int32.not_le.mp h9)) (by decide)).elim)
    refine lv_iinc (v := 0) (lv' := [(2, .int 0), (0, .ref tp), (1, .int p0)]) hx hb dX8_append_43 hl (k := 0) rfl (by decide) (by decide) rfl (fun ls hl => ?_)
    refine lv_goto (tgt := 3) hx hb dX8_append_46 (by decide) ?_
    refine lv_iload_n hx hb dX8_append_3 rfl (lv_at hl 0 rfl) ?_
    refine lv_if_lt (tgt := 49) hx hb dX8_append_4 (by decide) (fun h9 => absurd h9 (by decide)) (fun _ => ?_)
    refine lv_aload_n hx hb dX8_append_7 rfl (lv_at hl 1 rfl) ?_
    refine va_get (D := D) (ci := 8) (v := .int tl) (C := RX8) (T := TX8) (N := 2) hx hb hts inlX8 hown hK hP 0 rfl rfl 1 (by decide) (hts (Cond.fieldLink RX8 15 "ChanceRings$Tape" "length" "I") qw_340) (fun _ h9 => h9) rfl dX8_append_8 ?_
    refine lv_sipush (v := 440) hx hb dX8_append_11 (by decide) ?_
    refine lv_icmp_ge (tgt := 43) hx hb dX8_append_14 (by decide) (fun c_59700 => ?_) (fun h9 => (nr_x_lt h_59696 (⟨by decide, by decide⟩ : 440 ≤ (440 : Int32).toInt ∧ (440 : Int32).toInt ≤ 440) (Int32.lt_iff_toInt_lt.mp (Int32.not_le.mp h9)) (by decide)).elim)
    refine lv_iinc (v := (-8)) (lv' := [(2, .int (-8)), (0, .ref tp), (1, .int p0)]) hx hb dX8_append_43 hl (k := 0) rfl (by decide) (by decide) rfl (fun ls hl => ?_)
    refine lv_goto (tgt := 3) hx hb dX8_append_46 (by decide) ?_
    refine lv_iload_n hx hb dX8_append_3 rfl (lv_at hl 0 rfl) ?_
    refine lv_if_lt (tgt := 49) hx hb dX8_append_4 (by decide) (fun _ => ?_) (fun h9 => (h9 (by decide)).elim)
    have hP9 := hP.sub (ws' := [(wO8 tp tp_bytes tl), (wI g tp_bytes 0 440 tf)]) [0, 1] rfl
    have hD9 := hD.sub (ws' := [(wO8 tp tp_bytes tl), (wI g tp_bytes 0 440 tf)]) [0, 1] (by decide) rfl
    exact W.vret hx hb hr (fun t ht hW => ⟨⟨(), rfl, trivial, tl, tf, (tr_w h_59696 (by decide) (by decide)), (tr_wa h_tf (by decide) (by decide)), by rw [ht]; exact hP9, hD9⟩, hS.F ht⟩) hS.2.2 dX8_append_49
  · skip
    have c_59695_i := Int32.lt_iff_toInt_lt.mp (Int32.not_le.mp c_59695)
    have h_59697 : 0 ≤ (tl : Int32).toInt ∧ (tl : Int32).toInt ≤ 439 := nr_lt_l h_tl (⟨by decide, by decide⟩ : 440 ≤ (440 : Int32).toInt ∧ (440 : Int32).toInt ≤ 440) c_59695_i (by decide) (by decide)
    refine lv_aload_n hx hb dX8_append_17 rfl (lv_at hl 1 rfl) ?_
    refine va_get (D := D) (ci := 8) (v := .ref tp_bytes) (C := RX8) (T := TX8) (N := 2) hx hb hts inlX8 hown hK hP 0 rfl rfl 0 (by decide) (hts (Cond.fieldLink RX8 9 "ChanceRings$Tape" "bytes" "[I") qw_341) (fun _ h9 => h9) rfl dX8_append_18 ?_
    refine lv_aload_n hx hb dX8_append_21 rfl (lv_at hl 1 rfl) ?_
    refine va_get (D := D) (ci := 8) (v := .int tl) (C := RX8) (T := TX8) (N := 2) hx hb hts inlX8 hown hK hP 0 rfl rfl 1 (by decide) (hts (Cond.fieldLink RX8 15 "ChanceRings$Tape" "length" "I") qw_340) (fun _ h9 => h9) rfl dX8_append_22 ?_
    refine lv_iload_n hx hb dX8_append_25 rfl (lv_at hl 2 rfl) ?_
    refine lv_iload_n hx hb dX8_append_26 rfl (lv_at hl 0 rfl) ?_
    refine lv_iushr hx hb dX8_append_27 rfl ?_
    refine lv_topi (fun v_59701 v_59701_e => ?_)
    refine lv_sipush (v := 255) hx hb dX8_append_28 (by decide) ?_
    refine lv_iand hx hb dX8_append_31 ?_
    refine lv_topi (fun v_59702 v_59702_e => ?_)
    have h_v_59702 : 0 ≤ (v_59702 : Int32).toInt ∧ (v_59702 : Int32).toInt ≤ 255 := by rw [v_59702_e]; exact tr_and255 _
    refine va_iast hx hb hK hP hD hS 1 0 rfl rfl (tr_in h_59697 (by decide) (by decide)) dX8_append_32 (fun H locs hP hD hS => ?_)
    obtain ⟨f_59703, h_f_59703, hP, hD⟩ : ∃ FX : Nat → Int32, (∀ j : Nat, 0 ≤ (FX j).toInt ∧ (FX j).toInt ≤ 255) ∧ va_P D vwCl [(wO8 tp tp_bytes tl), (wI g tp_bytes 0 440 FX)] H ∧ va_D A [(wO8 tp tp_bytes tl), (wI g tp_bytes 0 440 FX)] := ⟨_, tr_upd h_tf (tr_w h_v_59702 (by decide) (by decide)), hP, hD⟩
    have hP : va_P D vwCl [(wO8 tp tp_bytes tl), (wI g tp_bytes 0 440 f_59703)] H := hP
    have hD : va_D A [(wO8 tp tp_bytes tl), (wI g tp_bytes 0 440 f_59703)] := hD
    refine lv_aload_n hx hb dX8_append_33 rfl (lv_at hl 1 rfl) ?_
    refine lv_dup hx hb dX8_append_34 rfl ?_
    refine va_get (D := D) (ci := 8) (v := .int tl) (C := RX8) (T := TX8) (N := 2) hx hb hts inlX8 hown hK hP 0 rfl rfl 1 (by decide) (hts (Cond.fieldLink RX8 15 "ChanceRings$Tape" "length" "I") qw_340) (fun _ h9 => h9) rfl dX8_append_35 ?_
    refine lv_iconst (v := 1) hx hb dX8_append_38 (by decide) ?_
    refine lv_iadd hx hb dX8_append_39 ?_
    refine lv_topi (fun v_59704 v_59704_e => ?_)
    have h_v_59704 : 1 ≤ (v_59704 : Int32).toInt ∧ (v_59704 : Int32).toInt ≤ 440 := by rw [v_59704_e]; exact tr_add h_59697 (⟨by decide, by decide⟩ : 1 ≤ (1 : Int32).toInt ∧ (1 : Int32).toInt ≤ 1) (by decide) (by decide) (by decide) (by decide)
    have q_v_59704 : v_59704.toInt = tl.toInt + 1 := by rw [v_59704_e]; exact tr_addE h_59697 (⟨by decide, by decide⟩ : 1 ≤ (1 : Int32).toInt ∧ (1 : Int32).toInt ≤ 1) (by decide) (by decide)
    refine va_put (D := D) (ci := 8) (v := .int v_59704) (ty := .int) (C := RX8) (T := TX8) (N := 2) hx hb hts inlX8 tyX8 tyX8_ok nmX8 hown hK hP hD hS 0 rfl rfl 1 (by decide) (hts (Cond.fieldLink RX8 15 "ChanceRings$Tape" "length" "I") qw_340) (fun _ h9 => h9) rfl (by decide +kernel) rfl rfl (Nat.le_of_ble_eq_true rfl) dX8_append_40 (fun H locs hP hD hS => ?_)
    have hP : va_P D vwCl [(wO8 tp tp_bytes v_59704), (wI g tp_bytes 0 440 f_59703)] H := hP
    have hD : va_D A [(wO8 tp tp_bytes v_59704), (wI g tp_bytes 0 440 f_59703)] := hD
    refine lv_iinc (v := 16) (lv' := [(2, .int 16), (0, .ref tp), (1, .int p0)]) hx hb dX8_append_43 hl (k := 0) rfl (by decide) (by decide) rfl (fun ls hl => ?_)
    refine lv_goto (tgt := 3) hx hb dX8_append_46 (by decide) ?_
    refine lv_iload_n hx hb dX8_append_3 rfl (lv_at hl 0 rfl) ?_
    refine lv_if_lt (tgt := 49) hx hb dX8_append_4 (by decide) (fun h9 => absurd h9 (by decide)) (fun _ => ?_)
    refine lv_aload_n hx hb dX8_append_7 rfl (lv_at hl 1 rfl) ?_
    refine va_get (D := D) (ci := 8) (v := .int v_59704) (C := RX8) (T := TX8) (N := 2) hx hb hts inlX8 hown hK hP 0 rfl rfl 1 (by decide) (hts (Cond.fieldLink RX8 15 "ChanceRings$Tape" "length" "I") qw_340) (fun _ h9 => h9) rfl dX8_append_8 ?_
    refine lv_sipush (v := 440) hx hb dX8_append_11 (by decide) ?_
    refine lv_icmp_ge (tgt := 43) hx hb dX8_append_14 (by decide) (fun c_59705 => ?_) (fun c_59705 => ?_)
    · skip
      have c_59705_i := Int32.le_iff_toInt_le.mp c_59705
      have h_59706 : 440 ≤ (v_59704 : Int32).toInt ∧ (v_59704 : Int32).toInt ≤ 440 := nr_le_r (⟨by decide, by decide⟩ : 440 ≤ (440 : Int32).toInt ∧ (440 : Int32).toInt ≤ 440) h_v_59704 c_59705_i (by decide) (by decide)
      refine lv_iinc (v := 8) (lv' := [(2, .int 8), (0, .ref tp), (1, .int p0)]) hx hb dX8_append_43 hl (k := 0) rfl (by decide) (by decide) rfl (fun ls hl => ?_)
      refine lv_goto (tgt := 3) hx hb dX8_append_46 (by decide) ?_
      refine lv_iload_n hx hb dX8_append_3 rfl (lv_at hl 0 rfl) ?_
      refine lv_if_lt (tgt := 49) hx hb dX8_append_4 (by decide) (fun h9 => absurd h9 (by decide)) (fun _ => ?_)
      refine lv_aload_n hx hb dX8_append_7 rfl (lv_at hl 1 rfl) ?_
      refine va_get (D := D) (ci := 8) (v := .int v_59704) (C := RX8) (T := TX8) (N := 2) hx hb hts inlX8 hown hK hP 0 rfl rfl 1 (by decide) (hts (Cond.fieldLink RX8 15 "ChanceRings$Tape" "length" "I") qw_340) (fun _ h9 => h9) rfl dX8_append_8 ?_
      refine lv_sipush (v := 440) hx hb dX8_append_11 (by decide) ?_
      refine lv_icmp_ge (tgt := 43) hx hb dX8_append_14 (by decide) (fun c_59708 => ?_) (fun h9 => (nr_x_lt h_59706 (⟨by decide, by decide⟩ : 440 ≤ (440 : Int32).toInt ∧ (440 : Int32).toInt ≤ 440) (Int32.lt_iff_toInt_lt.mp (Int32.not_le.mp h9)) (by decide)).elim)
      refine lv_iinc (v := 0) (lv' := [(2, .int 0), (0, .ref tp), (1, .int p0)]) hx hb dX8_append_43 hl (k := 0) rfl (by decide) (by decide) rfl (fun ls hl => ?_)
      refine lv_goto (tgt := 3) hx hb dX8_append_46 (by decide) ?_
      refine lv_iload_n hx hb dX8_append_3 rfl (lv_at hl 0 rfl) ?_
      refine lv_if_lt (tgt := 49) hx hb dX8_append_4 (by decide) (fun h9 => absurd h9 (by decide)) (fun _ => ?_)
      refine lv_aload_n hx hb dX8_append_7 rfl (lv_at hl 1 rfl) ?_
      refine va_get (D := D) (ci := 8) (v := .int v_59704) (C := RX8) (T := TX8) (N := 2) hx hb hts inlX8 hown hK hP 0 rfl rfl 1 (by decide) (hts (Cond.fieldLink RX8 15 "ChanceRings$Tape" "length" "I") qw_340) (fun _ h9 => h9) rfl dX8_append_8 ?_
      refine lv_sipush (v := 440) hx hb dX8_append_11 (by decide) ?_
      refine lv_icmp_ge (tgt := 43) hx hb dX8_append_14 (by decide) (fun c_59709 => ?_) (fun h9 => (nr_x_lt h_59706 (⟨by decide, by decide⟩ : 440 ≤ (440 : Int32).toInt ∧ (440 : Int32).toInt ≤ 440) (Int32.lt_iff_toInt_lt.mp (Int32.not_le.mp h9)) (by decide)).elim)
      refine lv_iinc (v := (-8)) (lv' := [(2, .int (-8)), (0, .ref tp), (1, .int p0)]) hx hb dX8_append_43 hl (k := 0) rfl (by decide) (by decide) rfl (fun ls hl => ?_)
      refine lv_goto (tgt := 3) hx hb dX8_append_46 (by decide) ?_
      refine lv_iload_n hx hb dX8_append_3 rfl (lv_at hl 0 rfl) ?_
      refine lv_if_lt (tgt := 49) hx hb dX8_append_4 (by decide) (fun _ => ?_) (fun h9 => (h9 (by decide)).elim)
      have hP9 := hP.sub (ws' := [(wO8 tp tp_bytes v_59704), (wI g tp_bytes 0 440 f_59703)]) [0, 1] rfl
      have hD9 := hD.sub (ws' := [(wO8 tp tp_bytes v_59704), (wI g tp_bytes 0 440 f_59703)]) [0, 1] (by decide) rfl
      exact W.vret hx hb hr (fun t ht hW => ⟨⟨(), rfl, trivial, v_59704, f_59703, (tr_w h_59706 (by decide) (by decide)), (tr_wa h_f_59703 (by decide) (by decide)), by rw [ht]; exact hP9, hD9⟩, hS.F ht⟩) hS.2.2 dX8_append_49
    · skip
      have c_59705_i := Int32.lt_iff_toInt_lt.mp (Int32.not_le.mp c_59705)
      have h_59707 : 1 ≤ (v_59704 : Int32).toInt ∧ (v_59704 : Int32).toInt ≤ 439 := nr_lt_l h_v_59704 (⟨by decide, by decide⟩ : 440 ≤ (440 : Int32).toInt ∧ (440 : Int32).toInt ≤ 440) c_59705_i (by decide) (by decide)
      refine lv_aload_n hx hb dX8_append_17 rfl (lv_at hl 1 rfl) ?_
      refine va_get (D := D) (ci := 8) (v := .ref tp_bytes) (C := RX8) (T := TX8) (N := 2) hx hb hts inlX8 hown hK hP 0 rfl rfl 0 (by decide) (hts (Cond.fieldLink RX8 9 "ChanceRings$Tape" "bytes" "[I") qw_341) (fun _ h9 => h9) rfl dX8_append_18 ?_
      refine lv_aload_n hx hb dX8_append_21 rfl (lv_at hl 1 rfl) ?_
      refine va_get (D := D) (ci := 8) (v := .int v_59704) (C := RX8) (T := TX8) (N := 2) hx hb hts inlX8 hown hK hP 0 rfl rfl 1 (by decide) (hts (Cond.fieldLink RX8 15 "ChanceRings$Tape" "length" "I") qw_340) (fun _ h9 => h9) rfl dX8_append_22 ?_
      refine lv_iload_n hx hb dX8_append_25 rfl (lv_at hl 2 rfl) ?_
      refine lv_iload_n hx hb dX8_append_26 rfl (lv_at hl 0 rfl) ?_
      refine lv_iushr hx hb dX8_append_27 rfl ?_
      refine lv_topi (fun v_59710 v_59710_e => ?_)
      refine lv_sipush (v := 255) hx hb dX8_append_28 (by decide) ?_
      refine lv_iand hx hb dX8_append_31 ?_
      refine lv_topi (fun v_59711 v_59711_e => ?_)
      have h_v_59711 : 0 ≤ (v_59711 : Int32).toInt ∧ (v_59711 : Int32).toInt ≤ 255 := by rw [v_59711_e]; exact tr_and255 _
      refine va_iast hx hb hK hP hD hS 1 0 rfl rfl (tr_in h_59707 (by decide) (by decide)) dX8_append_32 (fun H locs hP hD hS => ?_)
      obtain ⟨f_59712, h_f_59712, hP, hD⟩ : ∃ FX : Nat → Int32, (∀ j : Nat, 0 ≤ (FX j).toInt ∧ (FX j).toInt ≤ 255) ∧ va_P D vwCl [(wO8 tp tp_bytes v_59704), (wI g tp_bytes 0 440 FX)] H ∧ va_D A [(wO8 tp tp_bytes v_59704), (wI g tp_bytes 0 440 FX)] := ⟨_, tr_upd h_f_59703 (tr_w h_v_59711 (by decide) (by decide)), hP, hD⟩
      have hP : va_P D vwCl [(wO8 tp tp_bytes v_59704), (wI g tp_bytes 0 440 f_59712)] H := hP
      have hD : va_D A [(wO8 tp tp_bytes v_59704), (wI g tp_bytes 0 440 f_59712)] := hD
      refine lv_aload_n hx hb dX8_append_33 rfl (lv_at hl 1 rfl) ?_
      refine lv_dup hx hb dX8_append_34 rfl ?_
      refine va_get (D := D) (ci := 8) (v := .int v_59704) (C := RX8) (T := TX8) (N := 2) hx hb hts inlX8 hown hK hP 0 rfl rfl 1 (by decide) (hts (Cond.fieldLink RX8 15 "ChanceRings$Tape" "length" "I") qw_340) (fun _ h9 => h9) rfl dX8_append_35 ?_
      refine lv_iconst (v := 1) hx hb dX8_append_38 (by decide) ?_
      refine lv_iadd hx hb dX8_append_39 ?_
      refine lv_topi (fun v_59713 v_59713_e => ?_)
      have h_v_59713 : 2 ≤ (v_59713 : Int32).toInt ∧ (v_59713 : Int32).toInt ≤ 440 := by rw [v_59713_e]; exact tr_add h_59707 (⟨by decide, by decide⟩ : 1 ≤ (1 : Int32).toInt ∧ (1 : Int32).toInt ≤ 1) (by decide) (by decide) (by decide) (by decide)
      have q_v_59713 : v_59713.toInt = v_59704.toInt + 1 := by rw [v_59713_e]; exact tr_addE h_59707 (⟨by decide, by decide⟩ : 1 ≤ (1 : Int32).toInt ∧ (1 : Int32).toInt ≤ 1) (by decide) (by decide)
      refine va_put (D := D) (ci := 8) (v := .int v_59713) (ty := .int) (C := RX8) (T := TX8) (N := 2) hx hb hts inlX8 tyX8 tyX8_ok nmX8 hown hK hP hD hS 0 rfl rfl 1 (by decide) (hts (Cond.fieldLink RX8 15 "ChanceRings$Tape" "length" "I") qw_340) (fun _ h9 => h9) rfl (by decide +kernel) rfl rfl (Nat.le_of_ble_eq_true rfl) dX8_append_40 (fun H locs hP hD hS => ?_)
      have hP : va_P D vwCl [(wO8 tp tp_bytes v_59713), (wI g tp_bytes 0 440 f_59712)] H := hP
      have hD : va_D A [(wO8 tp tp_bytes v_59713), (wI g tp_bytes 0 440 f_59712)] := hD
      refine lv_iinc (v := 8) (lv' := [(2, .int 8), (0, .ref tp), (1, .int p0)]) hx hb dX8_append_43 hl (k := 0) rfl (by decide) (by decide) rfl (fun ls hl => ?_)
      refine lv_goto (tgt := 3) hx hb dX8_append_46 (by decide) ?_
      refine lv_iload_n hx hb dX8_append_3 rfl (lv_at hl 0 rfl) ?_
      refine lv_if_lt (tgt := 49) hx hb dX8_append_4 (by decide) (fun h9 => absurd h9 (by decide)) (fun _ => ?_)
      refine lv_aload_n hx hb dX8_append_7 rfl (lv_at hl 1 rfl) ?_
      refine va_get (D := D) (ci := 8) (v := .int v_59713) (C := RX8) (T := TX8) (N := 2) hx hb hts inlX8 hown hK hP 0 rfl rfl 1 (by decide) (hts (Cond.fieldLink RX8 15 "ChanceRings$Tape" "length" "I") qw_340) (fun _ h9 => h9) rfl dX8_append_8 ?_
      refine lv_sipush (v := 440) hx hb dX8_append_11 (by decide) ?_
      refine lv_icmp_ge (tgt := 43) hx hb dX8_append_14 (by decide) (fun c_59714 => ?_) (fun c_59714 => ?_)
      · skip
        have c_59714_i := Int32.le_iff_toInt_le.mp c_59714
        have h_59715 : 440 ≤ (v_59713 : Int32).toInt ∧ (v_59713 : Int32).toInt ≤ 440 := nr_le_r (⟨by decide, by decide⟩ : 440 ≤ (440 : Int32).toInt ∧ (440 : Int32).toInt ≤ 440) h_v_59713 c_59714_i (by decide) (by decide)
        refine lv_iinc (v := 0) (lv' := [(2, .int 0), (0, .ref tp), (1, .int p0)]) hx hb dX8_append_43 hl (k := 0) rfl (by decide) (by decide) rfl (fun ls hl => ?_)
        refine lv_goto (tgt := 3) hx hb dX8_append_46 (by decide) ?_
        refine lv_iload_n hx hb dX8_append_3 rfl (lv_at hl 0 rfl) ?_
        refine lv_if_lt (tgt := 49) hx hb dX8_append_4 (by decide) (fun h9 => absurd h9 (by decide)) (fun _ => ?_)
        refine lv_aload_n hx hb dX8_append_7 rfl (lv_at hl 1 rfl) ?_
        refine va_get (D := D) (ci := 8) (v := .int v_59713) (C := RX8) (T := TX8) (N := 2) hx hb hts inlX8 hown hK hP 0 rfl rfl 1 (by decide) (hts (Cond.fieldLink RX8 15 "ChanceRings$Tape" "length" "I") qw_340) (fun _ h9 => h9) rfl dX8_append_8 ?_
        refine lv_sipush (v := 440) hx hb dX8_append_11 (by decide) ?_
        refine lv_icmp_ge (tgt := 43) hx hb dX8_append_14 (by decide) (fun c_59717 => ?_) (fun h9 => (nr_x_lt h_59715 (⟨by decide, by decide⟩ : 440 ≤ (440 : Int32).toInt ∧ (440 : Int32).toInt ≤ 440) (Int32.lt_iff_toInt_lt.mp (Int32.not_le.mp h9)) (by decide)).elim)
        refine lv_iinc (v := (-8)) (lv' := [(2, .int (-8)), (0, .ref tp), (1, .int p0)]) hx hb dX8_append_43 hl (k := 0) rfl (by decide) (by decide) rfl (fun ls hl => ?_)
        refine lv_goto (tgt := 3) hx hb dX8_append_46 (by decide) ?_
        refine lv_iload_n hx hb dX8_append_3 rfl (lv_at hl 0 rfl) ?_
        refine lv_if_lt (tgt := 49) hx hb dX8_append_4 (by decide) (fun _ => ?_) (fun h9 => (h9 (by decide)).elim)
        have hP9 := hP.sub (ws' := [(wO8 tp tp_bytes v_59713), (wI g tp_bytes 0 440 f_59712)]) [0, 1] rfl
        have hD9 := hD.sub (ws' := [(wO8 tp tp_bytes v_59713), (wI g tp_bytes 0 440 f_59712)]) [0, 1] (by decide) rfl
        exact W.vret hx hb hr (fun t ht hW => ⟨⟨(), rfl, trivial, v_59713, f_59712, (tr_w h_59715 (by decide) (by decide)), (tr_wa h_f_59712 (by decide) (by decide)), by rw [ht]; exact hP9, hD9⟩, hS.F ht⟩) hS.2.2 dX8_append_49
      · skip
        have c_59714_i := Int32.lt_iff_toInt_lt.mp (Int32.not_le.mp c_59714)
        have h_59716 : 2 ≤ (v_59713 : Int32).toInt ∧ (v_59713 : Int32).toInt ≤ 439 := nr_lt_l h_v_59713 (⟨by decide, by decide⟩ : 440 ≤ (440 : Int32).toInt ∧ (440 : Int32).toInt ≤ 440) c_59714_i (by decide) (by decide)
        refine lv_aload_n hx hb dX8_append_17 rfl (lv_at hl 1 rfl) ?_
        refine va_get (D := D) (ci := 8) (v := .ref tp_bytes) (C := RX8) (T := TX8) (N := 2) hx hb hts inlX8 hown hK hP 0 rfl rfl 0 (by decide) (hts (Cond.fieldLink RX8 9 "ChanceRings$Tape" "bytes" "[I") qw_341) (fun _ h9 => h9) rfl dX8_append_18 ?_
        refine lv_aload_n hx hb dX8_append_21 rfl (lv_at hl 1 rfl) ?_
        refine va_get (D := D) (ci := 8) (v := .int v_59713) (C := RX8) (T := TX8) (N := 2) hx hb hts inlX8 hown hK hP 0 rfl rfl 1 (by decide) (hts (Cond.fieldLink RX8 15 "ChanceRings$Tape" "length" "I") qw_340) (fun _ h9 => h9) rfl dX8_append_22 ?_
        refine lv_iload_n hx hb dX8_append_25 rfl (lv_at hl 2 rfl) ?_
        refine lv_iload_n hx hb dX8_append_26 rfl (lv_at hl 0 rfl) ?_
        refine lv_iushr hx hb dX8_append_27 rfl ?_
        refine lv_topi (fun v_59718 v_59718_e => ?_)
        refine lv_sipush (v := 255) hx hb dX8_append_28 (by decide) ?_
        refine lv_iand hx hb dX8_append_31 ?_
        refine lv_topi (fun v_59719 v_59719_e => ?_)
        have h_v_59719 : 0 ≤ (v_59719 : Int32).toInt ∧ (v_59719 : Int32).toInt ≤ 255 := by rw [v_59719_e]; exact tr_and255 _
        refine va_iast hx hb hK hP hD hS 1 0 rfl rfl (tr_in h_59716 (by decide) (by decide)) dX8_append_32 (fun H locs hP hD hS => ?_)
        obtain ⟨f_59720, h_f_59720, hP, hD⟩ : ∃ FX : Nat → Int32, (∀ j : Nat, 0 ≤ (FX j).toInt ∧ (FX j).toInt ≤ 255) ∧ va_P D vwCl [(wO8 tp tp_bytes v_59713), (wI g tp_bytes 0 440 FX)] H ∧ va_D A [(wO8 tp tp_bytes v_59713), (wI g tp_bytes 0 440 FX)] := ⟨_, tr_upd h_f_59712 (tr_w h_v_59719 (by decide) (by decide)), hP, hD⟩
        have hP : va_P D vwCl [(wO8 tp tp_bytes v_59713), (wI g tp_bytes 0 440 f_59720)] H := hP
        have hD : va_D A [(wO8 tp tp_bytes v_59713), (wI g tp_bytes 0 440 f_59720)] := hD
        refine lv_aload_n hx hb dX8_append_33 rfl (lv_at hl 1 rfl) ?_
        refine lv_dup hx hb dX8_append_34 rfl ?_
        refine va_get (D := D) (ci := 8) (v := .int v_59713) (C := RX8) (T := TX8) (N := 2) hx hb hts inlX8 hown hK hP 0 rfl rfl 1 (by decide) (hts (Cond.fieldLink RX8 15 "ChanceRings$Tape" "length" "I") qw_340) (fun _ h9 => h9) rfl dX8_append_35 ?_
        refine lv_iconst (v := 1) hx hb dX8_append_38 (by decide) ?_
        refine lv_iadd hx hb dX8_append_39 ?_
        refine lv_topi (fun v_59721 v_59721_e => ?_)
        have h_v_59721 : 3 ≤ (v_59721 : Int32).toInt ∧ (v_59721 : Int32).toInt ≤ 440 := by rw [v_59721_e]; exact tr_add h_59716 (⟨by decide, by decide⟩ : 1 ≤ (1 : Int32).toInt ∧ (1 : Int32).toInt ≤ 1) (by decide) (by decide) (by decide) (by decide)
        have q_v_59721 : v_59721.toInt = v_59713.toInt + 1 := by rw [v_59721_e]; exact tr_addE h_59716 (⟨by decide, by decide⟩ : 1 ≤ (1 : Int32).toInt ∧ (1 : Int32).toInt ≤ 1) (by decide) (by decide)
        refine va_put (D := D) (ci := 8) (v := .int v_59721) (ty := .int) (C := RX8) (T := TX8) (N := 2) hx hb hts inlX8 tyX8 tyX8_ok nmX8 hown hK hP hD hS 0 rfl rfl 1 (by decide) (hts (Cond.fieldLink RX8 15 "ChanceRings$Tape" "length" "I") qw_340) (fun _ h9 => h9) rfl (by decide +kernel) rfl rfl (Nat.le_of_ble_eq_true rfl) dX8_append_40 (fun H locs hP hD hS => ?_)
        have hP : va_P D vwCl [(wO8 tp tp_bytes v_59721), (wI g tp_bytes 0 440 f_59720)] H := hP
        have hD : va_D A [(wO8 tp tp_bytes v_59721), (wI g tp_bytes 0 440 f_59720)] := hD
        refine lv_iinc (v := 0) (lv' := [(2, .int 0), (0, .ref tp), (1, .int p0)]) hx hb dX8_append_43 hl (k := 0) rfl (by decide) (by decide) rfl (fun ls hl => ?_)
        refine lv_goto (tgt := 3) hx hb dX8_append_46 (by decide) ?_
        refine lv_iload_n hx hb dX8_append_3 rfl (lv_at hl 0 rfl) ?_
        refine lv_if_lt (tgt := 49) hx hb dX8_append_4 (by decide) (fun h9 => absurd h9 (by decide)) (fun _ => ?_)
        refine lv_aload_n hx hb dX8_append_7 rfl (lv_at hl 1 rfl) ?_
        refine va_get (D := D) (ci := 8) (v := .int v_59721) (C := RX8) (T := TX8) (N := 2) hx hb hts inlX8 hown hK hP 0 rfl rfl 1 (by decide) (hts (Cond.fieldLink RX8 15 "ChanceRings$Tape" "length" "I") qw_340) (fun _ h9 => h9) rfl dX8_append_8 ?_
        refine lv_sipush (v := 440) hx hb dX8_append_11 (by decide) ?_
        refine lv_icmp_ge (tgt := 43) hx hb dX8_append_14 (by decide) (fun c_59722 => ?_) (fun c_59722 => ?_)
        · skip
          have c_59722_i := Int32.le_iff_toInt_le.mp c_59722
          have h_59723 : 440 ≤ (v_59721 : Int32).toInt ∧ (v_59721 : Int32).toInt ≤ 440 := nr_le_r (⟨by decide, by decide⟩ : 440 ≤ (440 : Int32).toInt ∧ (440 : Int32).toInt ≤ 440) h_v_59721 c_59722_i (by decide) (by decide)
          refine lv_iinc (v := (-8)) (lv' := [(2, .int (-8)), (0, .ref tp), (1, .int p0)]) hx hb dX8_append_43 hl (k := 0) rfl (by decide) (by decide) rfl (fun ls hl => ?_)
          refine lv_goto (tgt := 3) hx hb dX8_append_46 (by decide) ?_
          refine lv_iload_n hx hb dX8_append_3 rfl (lv_at hl 0 rfl) ?_
          refine lv_if_lt (tgt := 49) hx hb dX8_append_4 (by decide) (fun _ => ?_) (fun h9 => (h9 (by decide)).elim)
          have hP9 := hP.sub (ws' := [(wO8 tp tp_bytes v_59721), (wI g tp_bytes 0 440 f_59720)]) [0, 1] rfl
          have hD9 := hD.sub (ws' := [(wO8 tp tp_bytes v_59721), (wI g tp_bytes 0 440 f_59720)]) [0, 1] (by decide) rfl
          exact W.vret hx hb hr (fun t ht hW => ⟨⟨(), rfl, trivial, v_59721, f_59720, (tr_w h_59723 (by decide) (by decide)), (tr_wa h_f_59720 (by decide) (by decide)), by rw [ht]; exact hP9, hD9⟩, hS.F ht⟩) hS.2.2 dX8_append_49
        · skip
          have c_59722_i := Int32.lt_iff_toInt_lt.mp (Int32.not_le.mp c_59722)
          have h_59724 : 3 ≤ (v_59721 : Int32).toInt ∧ (v_59721 : Int32).toInt ≤ 439 := nr_lt_l h_v_59721 (⟨by decide, by decide⟩ : 440 ≤ (440 : Int32).toInt ∧ (440 : Int32).toInt ≤ 440) c_59722_i (by decide) (by decide)
          refine lv_aload_n hx hb dX8_append_17 rfl (lv_at hl 1 rfl) ?_
          refine va_get (D := D) (ci := 8) (v := .ref tp_bytes) (C := RX8) (T := TX8) (N := 2) hx hb hts inlX8 hown hK hP 0 rfl rfl 0 (by decide) (hts (Cond.fieldLink RX8 9 "ChanceRings$Tape" "bytes" "[I") qw_341) (fun _ h9 => h9) rfl dX8_append_18 ?_
          refine lv_aload_n hx hb dX8_append_21 rfl (lv_at hl 1 rfl) ?_
          refine va_get (D := D) (ci := 8) (v := .int v_59721) (C := RX8) (T := TX8) (N := 2) hx hb hts inlX8 hown hK hP 0 rfl rfl 1 (by decide) (hts (Cond.fieldLink RX8 15 "ChanceRings$Tape" "length" "I") qw_340) (fun _ h9 => h9) rfl dX8_append_22 ?_
          refine lv_iload_n hx hb dX8_append_25 rfl (lv_at hl 2 rfl) ?_
          refine lv_iload_n hx hb dX8_append_26 rfl (lv_at hl 0 rfl) ?_
          refine lv_iushr hx hb dX8_append_27 rfl ?_
          refine lv_topi (fun v_59725 v_59725_e => ?_)
          refine lv_sipush (v := 255) hx hb dX8_append_28 (by decide) ?_
          refine lv_iand hx hb dX8_append_31 ?_
          refine lv_topi (fun v_59726 v_59726_e => ?_)
          have h_v_59726 : 0 ≤ (v_59726 : Int32).toInt ∧ (v_59726 : Int32).toInt ≤ 255 := by rw [v_59726_e]; exact tr_and255 _
          refine va_iast hx hb hK hP hD hS 1 0 rfl rfl (tr_in h_59724 (by decide) (by decide)) dX8_append_32 (fun H locs hP hD hS => ?_)
          obtain ⟨f_59727, h_f_59727, hP, hD⟩ : ∃ FX : Nat → Int32, (∀ j : Nat, 0 ≤ (FX j).toInt ∧ (FX j).toInt ≤ 255) ∧ va_P D vwCl [(wO8 tp tp_bytes v_59721), (wI g tp_bytes 0 440 FX)] H ∧ va_D A [(wO8 tp tp_bytes v_59721), (wI g tp_bytes 0 440 FX)] := ⟨_, tr_upd h_f_59720 (tr_w h_v_59726 (by decide) (by decide)), hP, hD⟩
          have hP : va_P D vwCl [(wO8 tp tp_bytes v_59721), (wI g tp_bytes 0 440 f_59727)] H := hP
          have hD : va_D A [(wO8 tp tp_bytes v_59721), (wI g tp_bytes 0 440 f_59727)] := hD
          refine lv_aload_n hx hb dX8_append_33 rfl (lv_at hl 1 rfl) ?_
          refine lv_dup hx hb dX8_append_34 rfl ?_
          refine va_get (D := D) (ci := 8) (v := .int v_59721) (C := RX8) (T := TX8) (N := 2) hx hb hts inlX8 hown hK hP 0 rfl rfl 1 (by decide) (hts (Cond.fieldLink RX8 15 "ChanceRings$Tape" "length" "I") qw_340) (fun _ h9 => h9) rfl dX8_append_35 ?_
          refine lv_iconst (v := 1) hx hb dX8_append_38 (by decide) ?_
          refine lv_iadd hx hb dX8_append_39 ?_
          refine lv_topi (fun v_59728 v_59728_e => ?_)
          have h_v_59728 : 4 ≤ (v_59728 : Int32).toInt ∧ (v_59728 : Int32).toInt ≤ 440 := by rw [v_59728_e]; exact tr_add h_59724 (⟨by decide, by decide⟩ : 1 ≤ (1 : Int32).toInt ∧ (1 : Int32).toInt ≤ 1) (by decide) (by decide) (by decide) (by decide)
          have q_v_59728 : v_59728.toInt = v_59721.toInt + 1 := by rw [v_59728_e]; exact tr_addE h_59724 (⟨by decide, by decide⟩ : 1 ≤ (1 : Int32).toInt ∧ (1 : Int32).toInt ≤ 1) (by decide) (by decide)
          refine va_put (D := D) (ci := 8) (v := .int v_59728) (ty := .int) (C := RX8) (T := TX8) (N := 2) hx hb hts inlX8 tyX8 tyX8_ok nmX8 hown hK hP hD hS 0 rfl rfl 1 (by decide) (hts (Cond.fieldLink RX8 15 "ChanceRings$Tape" "length" "I") qw_340) (fun _ h9 => h9) rfl (by decide +kernel) rfl rfl (Nat.le_of_ble_eq_true rfl) dX8_append_40 (fun H locs hP hD hS => ?_)
          have hP : va_P D vwCl [(wO8 tp tp_bytes v_59728), (wI g tp_bytes 0 440 f_59727)] H := hP
          have hD : va_D A [(wO8 tp tp_bytes v_59728), (wI g tp_bytes 0 440 f_59727)] := hD
          refine lv_iinc (v := (-8)) (lv' := [(2, .int (-8)), (0, .ref tp), (1, .int p0)]) hx hb dX8_append_43 hl (k := 0) rfl (by decide) (by decide) rfl (fun ls hl => ?_)
          refine lv_goto (tgt := 3) hx hb dX8_append_46 (by decide) ?_
          refine lv_iload_n hx hb dX8_append_3 rfl (lv_at hl 0 rfl) ?_
          refine lv_if_lt (tgt := 49) hx hb dX8_append_4 (by decide) (fun _ => ?_) (fun h9 => (h9 (by decide)).elim)
          have hP9 := hP.sub (ws' := [(wO8 tp tp_bytes v_59728), (wI g tp_bytes 0 440 f_59727)]) [0, 1] rfl
          have hD9 := hD.sub (ws' := [(wO8 tp tp_bytes v_59728), (wI g tp_bytes 0 440 f_59727)]) [0, 1] (by decide) rfl
          exact W.vret hx hb hr (fun t ht hW => ⟨⟨(), rfl, trivial, v_59728, f_59727, (tr_w h_v_59728 (by decide) (by decide)), (tr_wa h_f_59727 (by decide) (by decide)), by rw [ht]; exact hP9, hD9⟩, hS.F ht⟩) hS.2.2 dX8_append_49
set_option maxHeartbeats 4000000 in
set_option maxRecDepth 100000 in
theorem c_X8_tellsFractions (l : Launch) (D : va_G) (g : Nat → ClassId) (tp : Nat) (p0 : Int32) (tp_bytes : Nat) (tl : Int32) (tf : Nat → Int32) (h_p0 : 0 ≤ (p0 : Int32).toInt ∧ (p0 : Int32).toInt ≤ 12) (h_tl : 0 ≤ (tl : Int32).toInt ∧ (tl : Int32).toInt ≤ 440) (h_tf : ∀ j : Nat, 0 ≤ (tf j).toInt ∧ (tf j).toInt ≤ 255) : Met l yX8_tellsFractions (.code yX8_tellsFractions cX8_tellsFractions 3 (some .boolean) :: wsL_law) ({ frames := 0, cells := 0, slots := 0, locals := 0 }) (va_Pc [.ref tp, .int p0] (fun U => va_P D vwCl [(wO8 tp tp_bytes tl), (wI g tp_bytes 0 440 tf)] U.heap ∧ va_K D vwCl (TY g) U)) (vp_Si (fun r => 0 ≤ (r : Int32).toInt ∧ (r : Int32).toInt ≤ 1)) 0 0 (fun _ => False) := by
  refine Met.ofW (cc := cX8_tellsFractions) (maxL := 3) (ret := (some .boolean)) (by decide) rfl ?_
  intro p e s m args below meth c s₁ B hml hv
  obtain ⟨ha, hP, hK⟩ := hv
  have hx := B.exec
  have hb := B.bytes
  have hr := B.returns
  have hts0 := atoms_spec (ws := (.code yX8_tellsFractions cX8_tellsFractions 3 (some .boolean) :: wsL_law)) B.pre
  have hts : ∀ w ∈ wsL_law, w.before args s = true := fun w h => hts0 w (List.mem_cons_of_mem _ h)
  have hown : s.vm.findClass RX8 = some m.cls := findClass_of_methodNamed B.named
  have hlocks := B.notSynchronized
  have hP : va_P D vwCl [(wO8 tp tp_bytes tl), (wI g tp_bytes 0 440 tf)] s.heap := hP
  refine W.eq (g2 := entryFrame m ([.ref tp, .int p0] : List Value).toArray 3) (by rw [ha]) ?_
  have hl := lv_entry ([.ref tp, .int p0]) (n := 3) (Nat.le_of_ble_eq_true rfl)
  rw [lg_entry_eq]
  generalize (lg_sl ([.ref tp, .int p0]) ++ List.replicate (3 - (lg_sl ([.ref tp, .int p0])).length) Slot.unset).toArray = ls at hl ⊢
  have hl : lv_has ls 3 [(0, .ref tp), (1, .int p0)] := hl
  refine lv_aload_n hx hb dX8_tellsFractions_0 rfl (lv_at hl 0 rfl) ?_
  refine va_get (D := D) (ci := 8) (v := .int tl) (C := RX8) (T := TX8) (N := 2) hx hb hts inlX8 hown hK hP 0 rfl rfl 1 (by decide) (hts (Cond.fieldLink RX8 15 "ChanceRings$Tape" "length" "I") qw_340) (fun _ h9 => h9) rfl dX8_tellsFractions_1 ?_
  refine lv_iconst (v := 2) hx hb dX8_tellsFractions_4 (by decide) ?_
  refine lv_iload_n hx hb dX8_tellsFractions_5 rfl (lv_at hl 1 rfl) ?_
  refine lv_imul hx hb dX8_tellsFractions_6 ?_
  refine lv_topi (fun v_59729 v_59729_e => ?_)
  have h_v_59729 : 0 ≤ (v_59729 : Int32).toInt ∧ (v_59729 : Int32).toInt ≤ 24 := by rw [v_59729_e]; exact tr_mul (⟨by decide, by decide⟩ : 2 ≤ (2 : Int32).toInt ∧ (2 : Int32).toInt ≤ 2) h_p0 (by decide) (by decide) (by decide) (by decide)
  refine lv_icmp_eq (tgt := 12) hx hb dX8_tellsFractions_7 (by decide) (fun c_59730 => ?_) (fun c_59730 => ?_)
  · skip
    have c_59730_i : (tl : Int32).toInt = (v_59729 : Int32).toInt := congrArg Int32.toInt c_59730
    have h_59731 : 0 ≤ (tl : Int32).toInt ∧ (tl : Int32).toInt ≤ 24 := nr_eq_l h_tl h_v_59729 c_59730_i (by decide) (by decide)
    refine lv_iconst (v := 0) hx hb dX8_tellsFractions_12 (by decide) ?_
    refine lv_istore_n (lv' := [(2, .int 0), (0, .ref tp), (1, .int p0)]) hx hb dX8_tellsFractions_13 rfl hl (by decide) rfl (fun ls hl => ?_)
    have lp_59901 : ∀ (n_59901 : Nat) (x_59900 : Int32) (ls : Array Slot), (0 ≤ (x_59900 : Int32).toInt ∧ (x_59900 : Int32).toInt ≤ 12) → (12 - x_59900.toInt < (n_59901 : Int)) → lv_has ls 3 [(2, .int x_59900), (0, .ref tp), (1, .int p0)] → W p l e (headSpec (.code yX8_tellsFractions cX8_tellsFractions 3 (some .boolean) :: wsL_law) ({ frames := 0, cells := 0, slots := 0, locals := 0 })).room s m args below meth c s.heap [] 0 0 (MQ below (vp_Si (fun r => 0 ≤ (r : Int32).toInt ∧ (r : Int32).toInt ≤ 1)) args s 0 0 (fun _ => False)) (F0 m 14 ls []) := by
      intro n_59901
      induction n_59901 with
      | zero =>
        intro x_59900 ls h_x_59900 hm_59901 hl
        exfalso; omega
      | succ n_59901 ih_59901 =>
        intro x_59900 ls h_x_59900 hm_59901 hl
        refine lv_iload_n hx hb dX8_tellsFractions_14 rfl (lv_at hl 0 rfl) ?_
        refine lv_iload_n hx hb dX8_tellsFractions_15 rfl (lv_at hl 2 rfl) ?_
        refine lv_icmp_ge (tgt := 69) hx hb dX8_tellsFractions_16 (by decide) (fun c_59902 => ?_) (fun c_59902 => ?_)
        · skip
          refine lv_iconst (v := 1) hx hb dX8_tellsFractions_69 (by decide) ?_
          exact W.zret (v := 1) hx hb hr (by decide) (fun t ht hW => ⟨1, rfl, (⟨by decide, by decide⟩ : 0 ≤ (1 : Int32).toInt ∧ (1 : Int32).toInt ≤ 1), ht⟩) (fun _ h => nomatch h) dX8_tellsFractions_70
        · skip
          have c_59902_i := Int32.lt_iff_toInt_lt.mp (Int32.not_le.mp c_59902)
          have h_59903 : 0 ≤ (x_59900 : Int32).toInt ∧ (x_59900 : Int32).toInt ≤ 11 := nr_lt_l h_x_59900 h_p0 c_59902_i (by decide) (by decide)
          have h_59904 : 1 ≤ (p0 : Int32).toInt ∧ (p0 : Int32).toInt ≤ 12 := nr_lt_r h_x_59900 h_p0 c_59902_i (by decide) (by decide)
          refine lv_aload_n hx hb dX8_tellsFractions_19 rfl (lv_at hl 1 rfl) ?_
          refine va_get (D := D) (ci := 8) (v := .ref tp_bytes) (C := RX8) (T := TX8) (N := 2) hx hb hts inlX8 hown hK hP 0 rfl rfl 0 (by decide) (hts (Cond.fieldLink RX8 9 "ChanceRings$Tape" "bytes" "[I") qw_341) (fun _ h9 => h9) rfl dX8_tellsFractions_20 ?_
          refine lv_iconst (v := 2) hx hb dX8_tellsFractions_23 (by decide) ?_
          refine lv_iload_n hx hb dX8_tellsFractions_24 rfl (lv_at hl 0 rfl) ?_
          refine lv_imul hx hb dX8_tellsFractions_25 ?_
          refine lv_topi (fun v_59905 v_59905_e => ?_)
          have h_v_59905 : 0 ≤ (v_59905 : Int32).toInt ∧ (v_59905 : Int32).toInt ≤ 22 := by rw [v_59905_e]; exact tr_mul (⟨by decide, by decide⟩ : 2 ≤ (2 : Int32).toInt ∧ (2 : Int32).toInt ≤ 2) h_59903 (by decide) (by decide) (by decide) (by decide)
          refine va_iald hx hb hK hP 1 0 rfl rfl (tr_in h_v_59905 (by decide) (by decide)) dX8_tellsFractions_26 ?_
          refine lv_topi (fun v_59906 v_59906_e => ?_)
          have h_v_59906 : 0 ≤ (v_59906 : Int32).toInt ∧ (v_59906 : Int32).toInt ≤ 255 := by rw [v_59906_e]; exact h_tf _
          refine lv_bipush (v := 127) hx hb dX8_tellsFractions_27 (by decide) ?_
          refine lv_icmp_gt (tgt := 61) hx hb dX8_tellsFractions_29 (by decide) (fun c_59907 => ?_) (fun c_59907 => ?_)
          · skip
            have c_59907_i := Int32.lt_iff_toInt_lt.mp c_59907
            have h_59908 : 128 ≤ (v_59906 : Int32).toInt ∧ (v_59906 : Int32).toInt ≤ 255 := nr_lt_r (⟨by decide, by decide⟩ : 127 ≤ (127 : Int32).toInt ∧ (127 : Int32).toInt ≤ 127) h_v_59906 c_59907_i (by decide) (by decide)
            refine lv_iconst (v := 0) hx hb dX8_tellsFractions_61 (by decide) ?_
            exact W.zret (v := 0) hx hb hr (by decide) (fun t ht hW => ⟨0, rfl, (⟨by decide, by decide⟩ : 0 ≤ (0 : Int32).toInt ∧ (0 : Int32).toInt ≤ 1), ht⟩) (fun _ h => nomatch h) dX8_tellsFractions_62
          · skip
            have c_59907_i := Int32.le_iff_toInt_le.mp (Int32.not_lt.mp c_59907)
            have h_59909 : 0 ≤ (v_59906 : Int32).toInt ∧ (v_59906 : Int32).toInt ≤ 127 := nr_le_l h_v_59906 (⟨by decide, by decide⟩ : 127 ≤ (127 : Int32).toInt ∧ (127 : Int32).toInt ≤ 127) c_59907_i (by decide) (by decide)
            refine lv_aload_n hx hb dX8_tellsFractions_32 rfl (lv_at hl 1 rfl) ?_
            refine va_get (D := D) (ci := 8) (v := .ref tp_bytes) (C := RX8) (T := TX8) (N := 2) hx hb hts inlX8 hown hK hP 0 rfl rfl 0 (by decide) (hts (Cond.fieldLink RX8 9 "ChanceRings$Tape" "bytes" "[I") qw_341) (fun _ h9 => h9) rfl dX8_tellsFractions_33 ?_
            refine lv_iconst (v := 2) hx hb dX8_tellsFractions_36 (by decide) ?_
            refine lv_iload_n hx hb dX8_tellsFractions_37 rfl (lv_at hl 0 rfl) ?_
            refine lv_imul hx hb dX8_tellsFractions_38 ?_
            refine lv_topi (fun v_59910 v_59910_e => ?_)
            have h_v_59910 : 0 ≤ (v_59910 : Int32).toInt ∧ (v_59910 : Int32).toInt ≤ 22 := by rw [v_59910_e]; exact tr_mul (⟨by decide, by decide⟩ : 2 ≤ (2 : Int32).toInt ∧ (2 : Int32).toInt ≤ 2) h_59903 (by decide) (by decide) (by decide) (by decide)
            refine lv_iconst (v := 1) hx hb dX8_tellsFractions_39 (by decide) ?_
            refine lv_iadd hx hb dX8_tellsFractions_40 ?_
            refine lv_topi (fun v_59911 v_59911_e => ?_)
            have h_v_59911 : 1 ≤ (v_59911 : Int32).toInt ∧ (v_59911 : Int32).toInt ≤ 23 := by rw [v_59911_e]; exact tr_add h_v_59910 (⟨by decide, by decide⟩ : 1 ≤ (1 : Int32).toInt ∧ (1 : Int32).toInt ≤ 1) (by decide) (by decide) (by decide) (by decide)
            have q_v_59911 : v_59911.toInt = v_59910.toInt + 1 := by rw [v_59911_e]; exact tr_addE h_v_59910 (⟨by decide, by decide⟩ : 1 ≤ (1 : Int32).toInt ∧ (1 : Int32).toInt ≤ 1) (by decide) (by decide)
            refine va_iald hx hb hK hP 1 0 rfl rfl (tr_in h_v_59911 (by decide) (by decide)) dX8_tellsFractions_41 ?_
            refine lv_topi (fun v_59912 v_59912_e => ?_)
            have h_v_59912 : 0 ≤ (v_59912 : Int32).toInt ∧ (v_59912 : Int32).toInt ≤ 255 := by rw [v_59912_e]; exact h_tf _
            refine lv_bipush (v := 127) hx hb dX8_tellsFractions_42 (by decide) ?_
            refine lv_icmp_gt (tgt := 61) hx hb dX8_tellsFractions_44 (by decide) (fun c_59913 => ?_) (fun c_59913 => ?_)
            · skip
              have c_59913_i := Int32.lt_iff_toInt_lt.mp c_59913
              have h_59914 : 128 ≤ (v_59912 : Int32).toInt ∧ (v_59912 : Int32).toInt ≤ 255 := nr_lt_r (⟨by decide, by decide⟩ : 127 ≤ (127 : Int32).toInt ∧ (127 : Int32).toInt ≤ 127) h_v_59912 c_59913_i (by decide) (by decide)
              refine lv_iconst (v := 0) hx hb dX8_tellsFractions_61 (by decide) ?_
              exact W.zret (v := 0) hx hb hr (by decide) (fun t ht hW => ⟨0, rfl, (⟨by decide, by decide⟩ : 0 ≤ (0 : Int32).toInt ∧ (0 : Int32).toInt ≤ 1), ht⟩) (fun _ h => nomatch h) dX8_tellsFractions_62
            · skip
              have c_59913_i := Int32.le_iff_toInt_le.mp (Int32.not_lt.mp c_59913)
              have h_59915 : 0 ≤ (v_59912 : Int32).toInt ∧ (v_59912 : Int32).toInt ≤ 127 := nr_le_l h_v_59912 (⟨by decide, by decide⟩ : 127 ≤ (127 : Int32).toInt ∧ (127 : Int32).toInt ≤ 127) c_59913_i (by decide) (by decide)
              refine lv_aload_n hx hb dX8_tellsFractions_47 rfl (lv_at hl 1 rfl) ?_
              refine va_get (D := D) (ci := 8) (v := .ref tp_bytes) (C := RX8) (T := TX8) (N := 2) hx hb hts inlX8 hown hK hP 0 rfl rfl 0 (by decide) (hts (Cond.fieldLink RX8 9 "ChanceRings$Tape" "bytes" "[I") qw_341) (fun _ h9 => h9) rfl dX8_tellsFractions_48 ?_
              refine lv_iconst (v := 2) hx hb dX8_tellsFractions_51 (by decide) ?_
              refine lv_iload_n hx hb dX8_tellsFractions_52 rfl (lv_at hl 0 rfl) ?_
              refine lv_imul hx hb dX8_tellsFractions_53 ?_
              refine lv_topi (fun v_59916 v_59916_e => ?_)
              have h_v_59916 : 0 ≤ (v_59916 : Int32).toInt ∧ (v_59916 : Int32).toInt ≤ 22 := by rw [v_59916_e]; exact tr_mul (⟨by decide, by decide⟩ : 2 ≤ (2 : Int32).toInt ∧ (2 : Int32).toInt ≤ 2) h_59903 (by decide) (by decide) (by decide) (by decide)
              refine lv_iconst (v := 1) hx hb dX8_tellsFractions_54 (by decide) ?_
              refine lv_iadd hx hb dX8_tellsFractions_55 ?_
              refine lv_topi (fun v_59917 v_59917_e => ?_)
              have h_v_59917 : 1 ≤ (v_59917 : Int32).toInt ∧ (v_59917 : Int32).toInt ≤ 23 := by rw [v_59917_e]; exact tr_add h_v_59916 (⟨by decide, by decide⟩ : 1 ≤ (1 : Int32).toInt ∧ (1 : Int32).toInt ≤ 1) (by decide) (by decide) (by decide) (by decide)
              have q_v_59917 : v_59917.toInt = v_59916.toInt + 1 := by rw [v_59917_e]; exact tr_addE h_v_59916 (⟨by decide, by decide⟩ : 1 ≤ (1 : Int32).toInt ∧ (1 : Int32).toInt ≤ 1) (by decide) (by decide)
              refine va_iald hx hb hK hP 1 0 rfl rfl (tr_in h_v_59917 (by decide) (by decide)) dX8_tellsFractions_56 ?_
              refine lv_topi (fun v_59918 v_59918_e => ?_)
              have h_v_59918 : 0 ≤ (v_59918 : Int32).toInt ∧ (v_59918 : Int32).toInt ≤ 255 := by rw [v_59918_e]; exact h_tf _
              refine lv_iconst (v := 1) hx hb dX8_tellsFractions_57 (by decide) ?_
              refine lv_icmp_ge (tgt := 63) hx hb dX8_tellsFractions_58 (by decide) (fun c_59919 => ?_) (fun c_59919 => ?_)
              · skip
                have c_59919_i := Int32.le_iff_toInt_le.mp c_59919
                have h_59920 : 1 ≤ (v_59918 : Int32).toInt ∧ (v_59918 : Int32).toInt ≤ 255 := nr_le_r (⟨by decide, by decide⟩ : 1 ≤ (1 : Int32).toInt ∧ (1 : Int32).toInt ≤ 1) h_v_59918 c_59919_i (by decide) (by decide)
                obtain ⟨v_59922, v_59922_e⟩ : ∃ y : Int32, y = x_59900 + Int32.ofInt 1 := ⟨_, rfl⟩
                have h_v_59922 : 1 ≤ (v_59922 : Int32).toInt ∧ (v_59922 : Int32).toInt ≤ 12 := by rw [v_59922_e]; exact tr_add h_59903 (⟨by decide, by decide⟩ : 1 ≤ (Int32.ofInt 1 : Int32).toInt ∧ (Int32.ofInt 1 : Int32).toInt ≤ 1) (by decide) (by decide) (by decide) (by decide)
                have q_v_59922 : v_59922.toInt = x_59900.toInt + 1 := by rw [v_59922_e]; exact tr_addE h_59903 (⟨by decide, by decide⟩ : 1 ≤ (Int32.ofInt 1 : Int32).toInt ∧ (Int32.ofInt 1 : Int32).toInt ≤ 1) (by decide) (by decide)
                refine lv_iinc (v := v_59922) (lv' := [(2, .int v_59922), (0, .ref tp), (1, .int p0)]) hx hb dX8_tellsFractions_63 hl (k := 0) rfl v_59922_e.symm (by decide) rfl (fun ls hl => ?_)
                refine lv_goto (tgt := 14) hx hb dX8_tellsFractions_66 (by decide) ?_
                exact ih_59901 v_59922 ls (tr_w h_v_59922 (by decide) (by decide)) (by (first | (clear h_tl h_v_59729 c_59730_i h_59731 h_v_59905 h_v_59906 c_59907_i h_59909 h_v_59910 h_v_59911 q_v_59911 h_v_59912 c_59913_i h_59915 h_v_59916 h_v_59917 q_v_59917 h_v_59918 c_59919_i h_59920; omega) | omega)) (lv_sub hl [0, 1, 2] rfl)
              · skip
                have c_59919_i := Int32.lt_iff_toInt_lt.mp (Int32.not_le.mp c_59919)
                have h_59921 : 0 ≤ (v_59918 : Int32).toInt ∧ (v_59918 : Int32).toInt ≤ 0 := nr_lt_l h_v_59918 (⟨by decide, by decide⟩ : 1 ≤ (1 : Int32).toInt ∧ (1 : Int32).toInt ≤ 1) c_59919_i (by decide) (by decide)
                refine lv_iconst (v := 0) hx hb dX8_tellsFractions_61 (by decide) ?_
                exact W.zret (v := 0) hx hb hr (by decide) (fun t ht hW => ⟨0, rfl, (⟨by decide, by decide⟩ : 0 ≤ (0 : Int32).toInt ∧ (0 : Int32).toInt ≤ 1), ht⟩) (fun _ h => nomatch h) dX8_tellsFractions_62
    exact lp_59901 13 0 ls (⟨by decide, by decide⟩ : 0 ≤ (0 : Int32).toInt ∧ (0 : Int32).toInt ≤ 12) (by decide) (lv_sub hl [0, 1, 2] rfl)
  · skip
    refine lv_iconst (v := 0) hx hb dX8_tellsFractions_10 (by decide) ?_
    exact W.zret (v := 0) hx hb hr (by decide) (fun t ht hW => ⟨0, rfl, (⟨by decide, by decide⟩ : 0 ≤ (0 : Int32).toInt ∧ (0 : Int32).toInt ≤ 1), ht⟩) (fun _ h => nomatch h) dX8_tellsFractions_11
set_option maxHeartbeats 4000000 in
set_option maxRecDepth 100000 in
theorem c_X8_numerator (l : Launch) (D : va_G) (g : Nat → ClassId) (tp : Nat) (p0 : Int32) (tp_bytes : Nat) (tl : Int32) (tf : Nat → Int32) (h_p0 : 0 ≤ (p0 : Int32).toInt ∧ (p0 : Int32).toInt ≤ 11) (h_tl : 0 ≤ (tl : Int32).toInt ∧ (tl : Int32).toInt ≤ 440) (h_tf : ∀ j : Nat, 0 ≤ (tf j).toInt ∧ (tf j).toInt ≤ 255) : Met l yX8_numerator (.code yX8_numerator cX8_numerator 2 (some .long) :: wsL_law) ({ frames := 0, cells := 0, slots := 0, locals := 0 }) (va_Pc [.ref tp, .int p0] (fun U => va_P D vwCl [(wO8 tp tp_bytes tl), (wI g tp_bytes 0 440 tf)] U.heap ∧ va_K D vwCl (TY g) U)) (vp_Sl (fun r => True)) 0 0 (fun _ => False) := by
  refine Met.ofW (cc := cX8_numerator) (maxL := 2) (ret := (some .long)) (by decide) rfl ?_
  intro p e s m args below meth c s₁ B hml hv
  obtain ⟨ha, hP, hK⟩ := hv
  have hx := B.exec
  have hb := B.bytes
  have hr := B.returns
  have hts0 := atoms_spec (ws := (.code yX8_numerator cX8_numerator 2 (some .long) :: wsL_law)) B.pre
  have hts : ∀ w ∈ wsL_law, w.before args s = true := fun w h => hts0 w (List.mem_cons_of_mem _ h)
  have hown : s.vm.findClass RX8 = some m.cls := findClass_of_methodNamed B.named
  have hlocks := B.notSynchronized
  have hP : va_P D vwCl [(wO8 tp tp_bytes tl), (wI g tp_bytes 0 440 tf)] s.heap := hP
  refine W.eq (g2 := entryFrame m ([.ref tp, .int p0] : List Value).toArray 2) (by rw [ha]) ?_
  have hl := lv_entry ([.ref tp, .int p0]) (n := 2) (Nat.le_of_ble_eq_true rfl)
  rw [lg_entry_eq]
  generalize (lg_sl ([.ref tp, .int p0]) ++ List.replicate (2 - (lg_sl ([.ref tp, .int p0])).length) Slot.unset).toArray = ls at hl ⊢
  have hl : lv_has ls 2 [(0, .ref tp), (1, .int p0)] := hl
  refine lv_aload_n hx hb dX8_numerator_0 rfl (lv_at hl 0 rfl) ?_
  refine va_get (D := D) (ci := 8) (v := .ref tp_bytes) (C := RX8) (T := TX8) (N := 2) hx hb hts inlX8 hown hK hP 0 rfl rfl 0 (by decide) (hts (Cond.fieldLink RX8 9 "ChanceRings$Tape" "bytes" "[I") qw_341) (fun _ h9 => h9) rfl dX8_numerator_1 ?_
  refine lv_iconst (v := 2) hx hb dX8_numerator_4 (by decide) ?_
  refine lv_iload_n hx hb dX8_numerator_5 rfl (lv_at hl 1 rfl) ?_
  refine lv_imul hx hb dX8_numerator_6 ?_
  refine lv_topi (fun v_59923 v_59923_e => ?_)
  have h_v_59923 : 0 ≤ (v_59923 : Int32).toInt ∧ (v_59923 : Int32).toInt ≤ 22 := by rw [v_59923_e]; exact tr_mul (⟨by decide, by decide⟩ : 2 ≤ (2 : Int32).toInt ∧ (2 : Int32).toInt ≤ 2) h_p0 (by decide) (by decide) (by decide) (by decide)
  refine va_iald hx hb hK hP 1 0 rfl rfl (tr_in h_v_59923 (by decide) (by decide)) dX8_numerator_7 ?_
  refine lv_topi (fun v_59924 v_59924_e => ?_)
  have h_v_59924 : 0 ≤ (v_59924 : Int32).toInt ∧ (v_59924 : Int32).toInt ≤ 255 := by rw [v_59924_e]; exact h_tf _
  refine lv_i2l hx hb dX8_numerator_8 rfl ?_
  refine lv_topl (fun w_59925 _ => ?_)
  exact W.lret (v := w_59925) hx hb hr (fun t ht hW => ⟨w_59925, rfl, trivial, ht⟩) (fun _ h => nomatch h) dX8_numerator_9
set_option maxHeartbeats 4000000 in
set_option maxRecDepth 100000 in
theorem c_X8_denominator (l : Launch) (D : va_G) (g : Nat → ClassId) (tp : Nat) (p0 : Int32) (tp_bytes : Nat) (tl : Int32) (tf : Nat → Int32) (h_p0 : 0 ≤ (p0 : Int32).toInt ∧ (p0 : Int32).toInt ≤ 11) (h_tl : 0 ≤ (tl : Int32).toInt ∧ (tl : Int32).toInt ≤ 440) (h_tf : ∀ j : Nat, 0 ≤ (tf j).toInt ∧ (tf j).toInt ≤ 255) : Met l yX8_denominator (.code yX8_denominator cX8_denominator 2 (some .long) :: wsL_law) ({ frames := 0, cells := 0, slots := 0, locals := 0 }) (va_Pc [.ref tp, .int p0] (fun U => va_P D vwCl [(wO8 tp tp_bytes tl), (wI g tp_bytes 0 440 tf)] U.heap ∧ va_K D vwCl (TY g) U)) (vp_Sl (fun r => True)) 0 0 (fun _ => False) := by
  refine Met.ofW (cc := cX8_denominator) (maxL := 2) (ret := (some .long)) (by decide) rfl ?_
  intro p e s m args below meth c s₁ B hml hv
  obtain ⟨ha, hP, hK⟩ := hv
  have hx := B.exec
  have hb := B.bytes
  have hr := B.returns
  have hts0 := atoms_spec (ws := (.code yX8_denominator cX8_denominator 2 (some .long) :: wsL_law)) B.pre
  have hts : ∀ w ∈ wsL_law, w.before args s = true := fun w h => hts0 w (List.mem_cons_of_mem _ h)
  have hown : s.vm.findClass RX8 = some m.cls := findClass_of_methodNamed B.named
  have hlocks := B.notSynchronized
  have hP : va_P D vwCl [(wO8 tp tp_bytes tl), (wI g tp_bytes 0 440 tf)] s.heap := hP
  refine W.eq (g2 := entryFrame m ([.ref tp, .int p0] : List Value).toArray 2) (by rw [ha]) ?_
  have hl := lv_entry ([.ref tp, .int p0]) (n := 2) (Nat.le_of_ble_eq_true rfl)
  rw [lg_entry_eq]
  generalize (lg_sl ([.ref tp, .int p0]) ++ List.replicate (2 - (lg_sl ([.ref tp, .int p0])).length) Slot.unset).toArray = ls at hl ⊢
  have hl : lv_has ls 2 [(0, .ref tp), (1, .int p0)] := hl
  refine lv_aload_n hx hb dX8_denominator_0 rfl (lv_at hl 0 rfl) ?_
  refine va_get (D := D) (ci := 8) (v := .ref tp_bytes) (C := RX8) (T := TX8) (N := 2) hx hb hts inlX8 hown hK hP 0 rfl rfl 0 (by decide) (hts (Cond.fieldLink RX8 9 "ChanceRings$Tape" "bytes" "[I") qw_341) (fun _ h9 => h9) rfl dX8_denominator_1 ?_
  refine lv_iconst (v := 2) hx hb dX8_denominator_4 (by decide) ?_
  refine lv_iload_n hx hb dX8_denominator_5 rfl (lv_at hl 1 rfl) ?_
  refine lv_imul hx hb dX8_denominator_6 ?_
  refine lv_topi (fun v_59926 v_59926_e => ?_)
  have h_v_59926 : 0 ≤ (v_59926 : Int32).toInt ∧ (v_59926 : Int32).toInt ≤ 22 := by rw [v_59926_e]; exact tr_mul (⟨by decide, by decide⟩ : 2 ≤ (2 : Int32).toInt ∧ (2 : Int32).toInt ≤ 2) h_p0 (by decide) (by decide) (by decide) (by decide)
  refine lv_iconst (v := 1) hx hb dX8_denominator_7 (by decide) ?_
  refine lv_iadd hx hb dX8_denominator_8 ?_
  refine lv_topi (fun v_59927 v_59927_e => ?_)
  have h_v_59927 : 1 ≤ (v_59927 : Int32).toInt ∧ (v_59927 : Int32).toInt ≤ 23 := by rw [v_59927_e]; exact tr_add h_v_59926 (⟨by decide, by decide⟩ : 1 ≤ (1 : Int32).toInt ∧ (1 : Int32).toInt ≤ 1) (by decide) (by decide) (by decide) (by decide)
  have q_v_59927 : v_59927.toInt = v_59926.toInt + 1 := by rw [v_59927_e]; exact tr_addE h_v_59926 (⟨by decide, by decide⟩ : 1 ≤ (1 : Int32).toInt ∧ (1 : Int32).toInt ≤ 1) (by decide) (by decide)
  refine va_iald hx hb hK hP 1 0 rfl rfl (tr_in h_v_59927 (by decide) (by decide)) dX8_denominator_9 ?_
  refine lv_topi (fun v_59928 v_59928_e => ?_)
  have h_v_59928 : 0 ≤ (v_59928 : Int32).toInt ∧ (v_59928 : Int32).toInt ≤ 255 := by rw [v_59928_e]; exact h_tf _
  refine lv_i2l hx hb dX8_denominator_10 rfl ?_
  refine lv_topl (fun w_59929 _ => ?_)
  exact W.lret (v := w_59929) hx hb hr (fun t ht hW => ⟨w_59929, rfl, trivial, ht⟩) (fun _ h => nomatch h) dX8_denominator_11
set_option maxHeartbeats 4000000 in
set_option maxRecDepth 100000 in
theorem c_X2_copyFrom (l : Launch) (D : va_G) (g : Nat → ClassId) (sz : Nat) (n : Nat) (o : Nat) (n_nodes : Int32) (n_kind : Nat) (n_pay : Nat) (n_name : Nat) (n_ways : Nat) (n_held : Nat) (n_targets : Nat) (n_weights : Nat) (o_nodes : Int32) (o_kind : Nat) (o_pay : Nat) (o_name : Nat) (o_ways : Nat) (o_held : Nat) (o_targets : Nat) (o_weights : Nat) (n_fkind : Nat → Int32) (n_fpay : Nat → Int32) (n_fname : Nat → Int32) (n_fways : Nat → Int32) (n_fheld : Nat → Int32) (n_ftargets : Nat → Int32) (n_fweights : Nat → Int32) (o_fkind : Nat → Int32) (o_fpay : Nat → Int32) (o_fname : Nat → Int32) (o_fways : Nat → Int32) (o_fheld : Nat → Int32) (o_ftargets : Nat → Int32) (o_fweights : Nat → Int32) (h_n_nodes : 0 ≤ (n_nodes : Int32).toInt ∧ (n_nodes : Int32).toInt ≤ 12) (h_o_nodes : 0 ≤ (o_nodes : Int32).toInt ∧ (o_nodes : Int32).toInt ≤ 12) (h_n_fkind : ∀ j : Nat, 0 ≤ (n_fkind j).toInt ∧ (n_fkind j).toInt ≤ 3) (h_n_fways : ∀ j : Nat, 0 ≤ (n_fways j).toInt ∧ (n_fways j).toInt ≤ 3) (h_n_fheld : ∀ j : Nat, (-1) ≤ (n_fheld j).toInt ∧ (n_fheld j).toInt ≤ 2) (h_n_ftargets : ∀ j : Nat, 0 ≤ (n_ftargets j).toInt ∧ (n_ftargets j).toInt ≤ 11) (h_o_fkind : ∀ j : Nat, 0 ≤ (o_fkind j).toInt ∧ (o_fkind j).toInt ≤ 3) (h_o_fways : ∀ j : Nat, 0 ≤ (o_fways j).toInt ∧ (o_fways j).toInt ≤ 3) (h_o_fheld : ∀ j : Nat, (-1) ≤ (o_fheld j).toInt ∧ (o_fheld j).toInt ≤ 2) (h_o_ftargets : ∀ j : Nat, 0 ≤ (o_ftargets j).toInt ∧ (o_ftargets j).toInt ≤ 11) : Met l yX2_copyFrom (.code yX2_copyFrom cX2_copyFrom 2 none :: wsL_law) ({ frames := 1, cells := 0, slots := 0, locals := 60 }) (va_Pc [.ref n, .ref o] (fun U => U.heap.size = sz ∧ va_P D vwCl [(wO2 n n_nodes n_kind n_pay n_name n_ways n_held n_targets n_weights), (wO2 o o_nodes o_kind o_pay o_name o_ways o_held o_targets o_weights), (wI g n_kind 0 12 n_fkind), (wI g n_pay 0 12 n_fpay), (wI g n_name 0 12 n_fname), (wI g n_ways 0 12 n_fways), (wI g n_held 0 12 n_fheld), (wI g n_targets 0 36 n_ftargets), (wI g n_weights 0 36 n_fweights), (wI g o_kind 0 12 o_fkind), (wI g o_pay 0 12 o_fpay), (wI g o_name 0 12 o_fname), (wI g o_ways 0 12 o_fways), (wI g o_held 0 12 o_fheld), (wI g o_targets 0 36 o_ftargets), (wI g o_weights 0 36 o_fweights)] U.heap ∧ va_K D vwCl (TY g) U ∧ va_D (fun _ => True) [(wO2 n n_nodes n_kind n_pay n_name n_ways n_held n_targets n_weights), (wO2 o o_nodes o_kind o_pay o_name o_ways o_held o_targets o_weights), (wI g n_kind 0 12 n_fkind), (wI g n_pay 0 12 n_fpay), (wI g n_name 0 12 n_fname), (wI g n_ways 0 12 n_fways), (wI g n_held 0 12 n_fheld), (wI g n_targets 0 36 n_ftargets), (wI g n_weights 0 36 n_fweights), (wI g o_kind 0 12 o_fkind), (wI g o_pay 0 12 o_fpay), (wI g o_name 0 12 o_fname), (wI g o_ways 0 12 o_fways), (wI g o_held 0 12 o_fheld), (wI g o_targets 0 36 o_ftargets), (wI g o_weights 0 36 o_fweights)])) (va_Qv (fun (_ : Unit) => True) (fun _ t => ∃ n_gkind : Nat → Int32, ∃ n_gpay : Nat → Int32, ∃ n_gname : Nat → Int32, ∃ n_gways : Nat → Int32, ∃ n_gheld : Nat → Int32, ∃ n_gtargets : Nat → Int32, ∃ n_gweights : Nat → Int32, (∀ j : Nat, 0 ≤ (n_gkind j).toInt ∧ (n_gkind j).toInt ≤ 3) ∧ (∀ j : Nat, 0 ≤ (n_gways j).toInt ∧ (n_gways j).toInt ≤ 3) ∧ (∀ j : Nat, (-1) ≤ (n_gheld j).toInt ∧ (n_gheld j).toInt ≤ 2) ∧ (∀ j : Nat, 0 ≤ (n_gtargets j).toInt ∧ (n_gtargets j).toInt ≤ 11) ∧ va_P D vwCl [(wO2 n o_nodes n_kind n_pay n_name n_ways n_held n_targets n_weights), (wO2 o o_nodes o_kind o_pay o_name o_ways o_held o_targets o_weights), (wI g n_kind 0 12 n_gkind), (wI g n_pay 0 12 n_gpay), (wI g n_name 0 12 n_gname), (wI g n_ways 0 12 n_gways), (wI g n_held 0 12 n_gheld), (wI g n_targets 0 36 n_gtargets), (wI g n_weights 0 36 n_gweights), (wI g o_kind 0 12 o_fkind), (wI g o_pay 0 12 o_fpay), (wI g o_name 0 12 o_fname), (wI g o_ways 0 12 o_fways), (wI g o_held 0 12 o_fheld), (wI g o_targets 0 36 o_ftargets), (wI g o_weights 0 36 o_fweights)] t.heap ∧ va_D (va_A [(wO2 n n_nodes n_kind n_pay n_name n_ways n_held n_targets n_weights), (wO2 o o_nodes o_kind o_pay o_name o_ways o_held o_targets o_weights), (wI g n_kind 0 12 n_fkind), (wI g n_pay 0 12 n_fpay), (wI g n_name 0 12 n_fname), (wI g n_ways 0 12 n_fways), (wI g n_held 0 12 n_fheld), (wI g n_targets 0 36 n_ftargets), (wI g n_weights 0 36 n_fweights), (wI g o_kind 0 12 o_fkind), (wI g o_pay 0 12 o_fpay), (wI g o_name 0 12 o_fname), (wI g o_ways 0 12 o_fways), (wI g o_held 0 12 o_fheld), (wI g o_targets 0 36 o_ftargets), (wI g o_weights 0 36 o_fweights)] sz) [(wO2 n o_nodes n_kind n_pay n_name n_ways n_held n_targets n_weights), (wO2 o o_nodes o_kind o_pay o_name o_ways o_held o_targets o_weights), (wI g n_kind 0 12 n_gkind), (wI g n_pay 0 12 n_gpay), (wI g n_name 0 12 n_gname), (wI g n_ways 0 12 n_gways), (wI g n_held 0 12 n_gheld), (wI g n_targets 0 36 n_gtargets), (wI g n_weights 0 36 n_gweights), (wI g o_kind 0 12 o_fkind), (wI g o_pay 0 12 o_fpay), (wI g o_name 0 12 o_fname), (wI g o_ways 0 12 o_fways), (wI g o_held 0 12 o_fheld), (wI g o_targets 0 36 o_ftargets), (wI g o_weights 0 36 o_fweights)]) (va_A [(wO2 n n_nodes n_kind n_pay n_name n_ways n_held n_targets n_weights), (wO2 o o_nodes o_kind o_pay o_name o_ways o_held o_targets o_weights), (wI g n_kind 0 12 n_fkind), (wI g n_pay 0 12 n_fpay), (wI g n_name 0 12 n_fname), (wI g n_ways 0 12 n_fways), (wI g n_held 0 12 n_fheld), (wI g n_targets 0 36 n_ftargets), (wI g n_weights 0 36 n_fweights), (wI g o_kind 0 12 o_fkind), (wI g o_pay 0 12 o_fpay), (wI g o_name 0 12 o_fname), (wI g o_ways 0 12 o_fways), (wI g o_held 0 12 o_fheld), (wI g o_targets 0 36 o_ftargets), (wI g o_weights 0 36 o_fweights)] sz)) 0 0 (va_A [(wO2 n n_nodes n_kind n_pay n_name n_ways n_held n_targets n_weights), (wO2 o o_nodes o_kind o_pay o_name o_ways o_held o_targets o_weights), (wI g n_kind 0 12 n_fkind), (wI g n_pay 0 12 n_fpay), (wI g n_name 0 12 n_fname), (wI g n_ways 0 12 n_fways), (wI g n_held 0 12 n_fheld), (wI g n_targets 0 36 n_ftargets), (wI g n_weights 0 36 n_fweights), (wI g o_kind 0 12 o_fkind), (wI g o_pay 0 12 o_fpay), (wI g o_name 0 12 o_fname), (wI g o_ways 0 12 o_fways), (wI g o_held 0 12 o_fheld), (wI g o_targets 0 36 o_ftargets), (wI g o_weights 0 36 o_fweights)] sz) := by
  refine Met.ofW (cc := cX2_copyFrom) (maxL := 2) (ret := none) (by decide) rfl ?_
  intro p e s m args below meth c s₁ B hml hv
  obtain ⟨ha, hsz, hP, hK, hD0⟩ := hv
  have hx := B.exec
  have hb := B.bytes
  have hr := B.returns
  have hts0 := atoms_spec (ws := (.code yX2_copyFrom cX2_copyFrom 2 none :: wsL_law)) B.pre
  have hts : ∀ w ∈ wsL_law, w.before args s = true := fun w h => hts0 w (List.mem_cons_of_mem _ h)
  have hown : s.vm.findClass RX2 = some m.cls := findClass_of_methodNamed B.named
  have hlocks := B.notSynchronized
  subst hsz
  have hD := hD0.self (sz := s.heap.size)
  generalize hAe : va_A [(wO2 n n_nodes n_kind n_pay n_name n_ways n_held n_targets n_weights), (wO2 o o_nodes o_kind o_pay o_name o_ways o_held o_targets o_weights), (wI g n_kind 0 12 n_fkind), (wI g n_pay 0 12 n_fpay), (wI g n_name 0 12 n_fname), (wI g n_ways 0 12 n_fways), (wI g n_held 0 12 n_fheld), (wI g n_targets 0 36 n_ftargets), (wI g n_weights 0 36 n_fweights), (wI g o_kind 0 12 o_fkind), (wI g o_pay 0 12 o_fpay), (wI g o_name 0 12 o_fname), (wI g o_ways 0 12 o_fways), (wI g o_held 0 12 o_fheld), (wI g o_targets 0 36 o_ftargets), (wI g o_weights 0 36 o_fweights)] s.heap.size = A at hD ⊢
  have hA : ∀ q : Nat, s.heap.size ≤ q → A q := fun q h => by rw [← hAe]; exact Or.inr h
  have hS : va_S A s.heap s.heap [] := va_S.rf
  have hP : va_P D vwCl [(wO2 n n_nodes n_kind n_pay n_name n_ways n_held n_targets n_weights), (wO2 o o_nodes o_kind o_pay o_name o_ways o_held o_targets o_weights), (wI g n_kind 0 12 n_fkind), (wI g n_pay 0 12 n_fpay), (wI g n_name 0 12 n_fname), (wI g n_ways 0 12 n_fways), (wI g n_held 0 12 n_fheld), (wI g n_targets 0 36 n_ftargets), (wI g n_weights 0 36 n_fweights), (wI g o_kind 0 12 o_fkind), (wI g o_pay 0 12 o_fpay), (wI g o_name 0 12 o_fname), (wI g o_ways 0 12 o_fways), (wI g o_held 0 12 o_fheld), (wI g o_targets 0 36 o_ftargets), (wI g o_weights 0 36 o_fweights)] s.heap := hP
  refine W.eq (g2 := entryFrame m ([.ref n, .ref o] : List Value).toArray 2) (by rw [ha]) ?_
  have hl := lv_entry ([.ref n, .ref o]) (n := 2) (Nat.le_of_ble_eq_true rfl)
  rw [lg_entry_eq]
  generalize (lg_sl ([.ref n, .ref o]) ++ List.replicate (2 - (lg_sl ([.ref n, .ref o])).length) Slot.unset).toArray = ls at hl ⊢
  have hl : lv_has ls 2 [(0, .ref n), (1, .ref o)] := hl
  refine lv_aload_n hx hb dX2_copyFrom_0 rfl (lv_at hl 0 rfl) ?_
  refine lv_aload_n hx hb dX2_copyFrom_1 rfl (lv_at hl 1 rfl) ?_
  refine va_get (D := D) (ci := 2) (v := .int o_nodes) (C := RX2) (T := TX2) (N := 8) hx hb hts inlX2 hown hK hP 1 rfl rfl 0 (by decide) (hts (Cond.fieldLink RX2 33 "ChanceRings$Net" "nodes" "I") qw_313) (fun _ h9 => h9) rfl dX2_copyFrom_2 ?_
  refine va_put (D := D) (ci := 2) (v := .int o_nodes) (ty := .int) (C := RX2) (T := TX2) (N := 8) hx hb hts inlX2 tyX2 tyX2_ok nmX2 hown hK hP hD hS 0 rfl rfl 0 (by decide) (hts (Cond.fieldLink RX2 33 "ChanceRings$Net" "nodes" "I") qw_313) (fun _ h9 => h9) rfl (by decide +kernel) rfl rfl (Nat.le_of_ble_eq_true rfl) dX2_copyFrom_5 (fun H locs hP hD hS => ?_)
  have hP : va_P D vwCl [(wO2 n o_nodes n_kind n_pay n_name n_ways n_held n_targets n_weights), (wO2 o o_nodes o_kind o_pay o_name o_ways o_held o_targets o_weights), (wI g n_kind 0 12 n_fkind), (wI g n_pay 0 12 n_fpay), (wI g n_name 0 12 n_fname), (wI g n_ways 0 12 n_fways), (wI g n_held 0 12 n_fheld), (wI g n_targets 0 36 n_ftargets), (wI g n_weights 0 36 n_fweights), (wI g o_kind 0 12 o_fkind), (wI g o_pay 0 12 o_fpay), (wI g o_name 0 12 o_fname), (wI g o_ways 0 12 o_fways), (wI g o_held 0 12 o_fheld), (wI g o_targets 0 36 o_ftargets), (wI g o_weights 0 36 o_fweights)] H := hP
  have hD : va_D A [(wO2 n o_nodes n_kind n_pay n_name n_ways n_held n_targets n_weights), (wO2 o o_nodes o_kind o_pay o_name o_ways o_held o_targets o_weights), (wI g n_kind 0 12 n_fkind), (wI g n_pay 0 12 n_fpay), (wI g n_name 0 12 n_fname), (wI g n_ways 0 12 n_fways), (wI g n_held 0 12 n_fheld), (wI g n_targets 0 36 n_ftargets), (wI g n_weights 0 36 n_fweights), (wI g o_kind 0 12 o_fkind), (wI g o_pay 0 12 o_fpay), (wI g o_name 0 12 o_fname), (wI g o_ways 0 12 o_fways), (wI g o_held 0 12 o_fheld), (wI g o_targets 0 36 o_ftargets), (wI g o_weights 0 36 o_fweights)] := hD
  refine lv_aload_n hx hb dX2_copyFrom_8 rfl (lv_at hl 1 rfl) ?_
  refine va_get (D := D) (ci := 2) (v := .ref o_kind) (C := RX2) (T := TX2) (N := 8) hx hb hts inlX2 hown hK hP 1 rfl rfl 1 (by decide) (hts (Cond.fieldLink RX2 9 "ChanceRings$Net" "kind" "[I") qw_316) (fun _ h9 => h9) rfl dX2_copyFrom_9 ?_
  refine lv_iconst (v := 0) hx hb dX2_copyFrom_12 (by decide) ?_
  refine lv_aload_n hx hb dX2_copyFrom_13 rfl (lv_at hl 0 rfl) ?_
  refine va_get (D := D) (ci := 2) (v := .ref n_kind) (C := RX2) (T := TX2) (N := 8) hx hb hts inlX2 hown hK hP 0 rfl rfl 1 (by decide) (hts (Cond.fieldLink RX2 9 "ChanceRings$Net" "kind" "[I") qw_316) (fun _ h9 => h9) rfl dX2_copyFrom_14 ?_
  refine lv_iconst (v := 0) hx hb dX2_copyFrom_17 (by decide) ?_
  refine lv_bipush (v := 12) hx hb dX2_copyFrom_18 (by decide) ?_
  refine va_copyi (ty := .int) hx hb (by rw [hml]; exact hl.1.symm) hown (hts (Cond.methodLink RX2 37 arraycopyName) qw_342) (hts (Cond.native arraycopyName) qw_343) (hts (Cond.static arraycopyName) qw_344) (hts (Cond.initialized "java/lang/System") qw_345) hK hP hD hS 9 2 0 0 rfl rfl rfl rfl rfl (by decide) (by decide) (by decide) (by decide +kernel) (by decide +kernel) (fun _ _ => rfl) (Nat.le_of_ble_eq_true rfl) (Nat.le_of_ble_eq_true rfl) dX2_copyFrom_20 (fun H locs hP hD hS => ?_)
  obtain ⟨f_59930, h_f_59930, hP, hD⟩ : ∃ FX : Nat → Int32, (∀ j : Nat, 0 ≤ (FX j).toInt ∧ (FX j).toInt ≤ 3) ∧ va_P D vwCl [(wO2 n o_nodes n_kind n_pay n_name n_ways n_held n_targets n_weights), (wO2 o o_nodes o_kind o_pay o_name o_ways o_held o_targets o_weights), (wI g n_kind 0 12 FX), (wI g n_pay 0 12 n_fpay), (wI g n_name 0 12 n_fname), (wI g n_ways 0 12 n_fways), (wI g n_held 0 12 n_fheld), (wI g n_targets 0 36 n_ftargets), (wI g n_weights 0 36 n_fweights), (wI g o_kind 0 12 o_fkind), (wI g o_pay 0 12 o_fpay), (wI g o_name 0 12 o_fname), (wI g o_ways 0 12 o_fways), (wI g o_held 0 12 o_fheld), (wI g o_targets 0 36 o_ftargets), (wI g o_weights 0 36 o_fweights)] H ∧ va_D A [(wO2 n o_nodes n_kind n_pay n_name n_ways n_held n_targets n_weights), (wO2 o o_nodes o_kind o_pay o_name o_ways o_held o_targets o_weights), (wI g n_kind 0 12 FX), (wI g n_pay 0 12 n_fpay), (wI g n_name 0 12 n_fname), (wI g n_ways 0 12 n_fways), (wI g n_held 0 12 n_fheld), (wI g n_targets 0 36 n_ftargets), (wI g n_weights 0 36 n_fweights), (wI g o_kind 0 12 o_fkind), (wI g o_pay 0 12 o_fpay), (wI g o_name 0 12 o_fname), (wI g o_ways 0 12 o_fways), (wI g o_held 0 12 o_fheld), (wI g o_targets 0 36 o_ftargets), (wI g o_weights 0 36 o_fweights)] := ⟨_, tr_cpy (tr_wa h_o_fkind (by decide) (by decide)) h_n_fkind, hP, hD⟩
  have hP : va_P D vwCl [(wO2 n o_nodes n_kind n_pay n_name n_ways n_held n_targets n_weights), (wO2 o o_nodes o_kind o_pay o_name o_ways o_held o_targets o_weights), (wI g n_kind 0 12 f_59930), (wI g n_pay 0 12 n_fpay), (wI g n_name 0 12 n_fname), (wI g n_ways 0 12 n_fways), (wI g n_held 0 12 n_fheld), (wI g n_targets 0 36 n_ftargets), (wI g n_weights 0 36 n_fweights), (wI g o_kind 0 12 o_fkind), (wI g o_pay 0 12 o_fpay), (wI g o_name 0 12 o_fname), (wI g o_ways 0 12 o_fways), (wI g o_held 0 12 o_fheld), (wI g o_targets 0 36 o_ftargets), (wI g o_weights 0 36 o_fweights)] H := hP
  have hD : va_D A [(wO2 n o_nodes n_kind n_pay n_name n_ways n_held n_targets n_weights), (wO2 o o_nodes o_kind o_pay o_name o_ways o_held o_targets o_weights), (wI g n_kind 0 12 f_59930), (wI g n_pay 0 12 n_fpay), (wI g n_name 0 12 n_fname), (wI g n_ways 0 12 n_fways), (wI g n_held 0 12 n_fheld), (wI g n_targets 0 36 n_ftargets), (wI g n_weights 0 36 n_fweights), (wI g o_kind 0 12 o_fkind), (wI g o_pay 0 12 o_fpay), (wI g o_name 0 12 o_fname), (wI g o_ways 0 12 o_fways), (wI g o_held 0 12 o_fheld), (wI g o_targets 0 36 o_ftargets), (wI g o_weights 0 36 o_fweights)] := hD
  refine lv_aload_n hx hb dX2_copyFrom_23 rfl (lv_at hl 1 rfl) ?_
  refine va_get (D := D) (ci := 2) (v := .ref o_pay) (C := RX2) (T := TX2) (N := 8) hx hb hts inlX2 hown hK hP 1 rfl rfl 2 (by decide) (hts (Cond.fieldLink RX2 15 "ChanceRings$Net" "pay" "[I") qw_317) (fun _ h9 => h9) rfl dX2_copyFrom_24 ?_
  refine lv_iconst (v := 0) hx hb dX2_copyFrom_27 (by decide) ?_
  refine lv_aload_n hx hb dX2_copyFrom_28 rfl (lv_at hl 0 rfl) ?_
  refine va_get (D := D) (ci := 2) (v := .ref n_pay) (C := RX2) (T := TX2) (N := 8) hx hb hts inlX2 hown hK hP 0 rfl rfl 2 (by decide) (hts (Cond.fieldLink RX2 15 "ChanceRings$Net" "pay" "[I") qw_317) (fun _ h9 => h9) rfl dX2_copyFrom_29 ?_
  refine lv_iconst (v := 0) hx hb dX2_copyFrom_32 (by decide) ?_
  refine lv_bipush (v := 12) hx hb dX2_copyFrom_33 (by decide) ?_
  refine va_copyi (ty := .int) hx hb (by rw [hml]; exact hl.1.symm) hown (hts (Cond.methodLink RX2 37 arraycopyName) qw_342) (hts (Cond.native arraycopyName) qw_343) (hts (Cond.static arraycopyName) qw_344) (hts (Cond.initialized "java/lang/System") qw_345) hK hP hD hS 10 3 0 0 rfl rfl rfl rfl rfl (by decide) (by decide) (by decide) (by decide +kernel) (by decide +kernel) (fun _ _ => rfl) (Nat.le_of_ble_eq_true rfl) (Nat.le_of_ble_eq_true rfl) dX2_copyFrom_35 (fun H locs hP hD hS => ?_)
  obtain ⟨f_59931, hP, hD⟩ : ∃ FX : Nat → Int32, va_P D vwCl [(wO2 n o_nodes n_kind n_pay n_name n_ways n_held n_targets n_weights), (wO2 o o_nodes o_kind o_pay o_name o_ways o_held o_targets o_weights), (wI g n_kind 0 12 f_59930), (wI g n_pay 0 12 FX), (wI g n_name 0 12 n_fname), (wI g n_ways 0 12 n_fways), (wI g n_held 0 12 n_fheld), (wI g n_targets 0 36 n_ftargets), (wI g n_weights 0 36 n_fweights), (wI g o_kind 0 12 o_fkind), (wI g o_pay 0 12 o_fpay), (wI g o_name 0 12 o_fname), (wI g o_ways 0 12 o_fways), (wI g o_held 0 12 o_fheld), (wI g o_targets 0 36 o_ftargets), (wI g o_weights 0 36 o_fweights)] H ∧ va_D A [(wO2 n o_nodes n_kind n_pay n_name n_ways n_held n_targets n_weights), (wO2 o o_nodes o_kind o_pay o_name o_ways o_held o_targets o_weights), (wI g n_kind 0 12 f_59930), (wI g n_pay 0 12 FX), (wI g n_name 0 12 n_fname), (wI g n_ways 0 12 n_fways), (wI g n_held 0 12 n_fheld), (wI g n_targets 0 36 n_ftargets), (wI g n_weights 0 36 n_fweights), (wI g o_kind 0 12 o_fkind), (wI g o_pay 0 12 o_fpay), (wI g o_name 0 12 o_fname), (wI g o_ways 0 12 o_fways), (wI g o_held 0 12 o_fheld), (wI g o_targets 0 36 o_ftargets), (wI g o_weights 0 36 o_fweights)] := ⟨_, hP, hD⟩
  have hP : va_P D vwCl [(wO2 n o_nodes n_kind n_pay n_name n_ways n_held n_targets n_weights), (wO2 o o_nodes o_kind o_pay o_name o_ways o_held o_targets o_weights), (wI g n_kind 0 12 f_59930), (wI g n_pay 0 12 f_59931), (wI g n_name 0 12 n_fname), (wI g n_ways 0 12 n_fways), (wI g n_held 0 12 n_fheld), (wI g n_targets 0 36 n_ftargets), (wI g n_weights 0 36 n_fweights), (wI g o_kind 0 12 o_fkind), (wI g o_pay 0 12 o_fpay), (wI g o_name 0 12 o_fname), (wI g o_ways 0 12 o_fways), (wI g o_held 0 12 o_fheld), (wI g o_targets 0 36 o_ftargets), (wI g o_weights 0 36 o_fweights)] H := hP
  have hD : va_D A [(wO2 n o_nodes n_kind n_pay n_name n_ways n_held n_targets n_weights), (wO2 o o_nodes o_kind o_pay o_name o_ways o_held o_targets o_weights), (wI g n_kind 0 12 f_59930), (wI g n_pay 0 12 f_59931), (wI g n_name 0 12 n_fname), (wI g n_ways 0 12 n_fways), (wI g n_held 0 12 n_fheld), (wI g n_targets 0 36 n_ftargets), (wI g n_weights 0 36 n_fweights), (wI g o_kind 0 12 o_fkind), (wI g o_pay 0 12 o_fpay), (wI g o_name 0 12 o_fname), (wI g o_ways 0 12 o_fways), (wI g o_held 0 12 o_fheld), (wI g o_targets 0 36 o_ftargets), (wI g o_weights 0 36 o_fweights)] := hD
  refine lv_aload_n hx hb dX2_copyFrom_38 rfl (lv_at hl 1 rfl) ?_
  refine va_get (D := D) (ci := 2) (v := .ref o_name) (C := RX2) (T := TX2) (N := 8) hx hb hts inlX2 hown hK hP 1 rfl rfl 3 (by decide) (hts (Cond.fieldLink RX2 18 "ChanceRings$Net" "name" "[I") qw_333) (fun _ h9 => h9) rfl dX2_copyFrom_39 ?_
  refine lv_iconst (v := 0) hx hb dX2_copyFrom_42 (by decide) ?_
  refine lv_aload_n hx hb dX2_copyFrom_43 rfl (lv_at hl 0 rfl) ?_
  refine va_get (D := D) (ci := 2) (v := .ref n_name) (C := RX2) (T := TX2) (N := 8) hx hb hts inlX2 hown hK hP 0 rfl rfl 3 (by decide) (hts (Cond.fieldLink RX2 18 "ChanceRings$Net" "name" "[I") qw_333) (fun _ h9 => h9) rfl dX2_copyFrom_44 ?_
  refine lv_iconst (v := 0) hx hb dX2_copyFrom_47 (by decide) ?_
  refine lv_bipush (v := 12) hx hb dX2_copyFrom_48 (by decide) ?_
  refine va_copyi (ty := .int) hx hb (by rw [hml]; exact hl.1.symm) hown (hts (Cond.methodLink RX2 37 arraycopyName) qw_342) (hts (Cond.native arraycopyName) qw_343) (hts (Cond.static arraycopyName) qw_344) (hts (Cond.initialized "java/lang/System") qw_345) hK hP hD hS 11 4 0 0 rfl rfl rfl rfl rfl (by decide) (by decide) (by decide) (by decide +kernel) (by decide +kernel) (fun _ _ => rfl) (Nat.le_of_ble_eq_true rfl) (Nat.le_of_ble_eq_true rfl) dX2_copyFrom_50 (fun H locs hP hD hS => ?_)
  obtain ⟨f_59932, hP, hD⟩ : ∃ FX : Nat → Int32, va_P D vwCl [(wO2 n o_nodes n_kind n_pay n_name n_ways n_held n_targets n_weights), (wO2 o o_nodes o_kind o_pay o_name o_ways o_held o_targets o_weights), (wI g n_kind 0 12 f_59930), (wI g n_pay 0 12 f_59931), (wI g n_name 0 12 FX), (wI g n_ways 0 12 n_fways), (wI g n_held 0 12 n_fheld), (wI g n_targets 0 36 n_ftargets), (wI g n_weights 0 36 n_fweights), (wI g o_kind 0 12 o_fkind), (wI g o_pay 0 12 o_fpay), (wI g o_name 0 12 o_fname), (wI g o_ways 0 12 o_fways), (wI g o_held 0 12 o_fheld), (wI g o_targets 0 36 o_ftargets), (wI g o_weights 0 36 o_fweights)] H ∧ va_D A [(wO2 n o_nodes n_kind n_pay n_name n_ways n_held n_targets n_weights), (wO2 o o_nodes o_kind o_pay o_name o_ways o_held o_targets o_weights), (wI g n_kind 0 12 f_59930), (wI g n_pay 0 12 f_59931), (wI g n_name 0 12 FX), (wI g n_ways 0 12 n_fways), (wI g n_held 0 12 n_fheld), (wI g n_targets 0 36 n_ftargets), (wI g n_weights 0 36 n_fweights), (wI g o_kind 0 12 o_fkind), (wI g o_pay 0 12 o_fpay), (wI g o_name 0 12 o_fname), (wI g o_ways 0 12 o_fways), (wI g o_held 0 12 o_fheld), (wI g o_targets 0 36 o_ftargets), (wI g o_weights 0 36 o_fweights)] := ⟨_, hP, hD⟩
  have hP : va_P D vwCl [(wO2 n o_nodes n_kind n_pay n_name n_ways n_held n_targets n_weights), (wO2 o o_nodes o_kind o_pay o_name o_ways o_held o_targets o_weights), (wI g n_kind 0 12 f_59930), (wI g n_pay 0 12 f_59931), (wI g n_name 0 12 f_59932), (wI g n_ways 0 12 n_fways), (wI g n_held 0 12 n_fheld), (wI g n_targets 0 36 n_ftargets), (wI g n_weights 0 36 n_fweights), (wI g o_kind 0 12 o_fkind), (wI g o_pay 0 12 o_fpay), (wI g o_name 0 12 o_fname), (wI g o_ways 0 12 o_fways), (wI g o_held 0 12 o_fheld), (wI g o_targets 0 36 o_ftargets), (wI g o_weights 0 36 o_fweights)] H := hP
  have hD : va_D A [(wO2 n o_nodes n_kind n_pay n_name n_ways n_held n_targets n_weights), (wO2 o o_nodes o_kind o_pay o_name o_ways o_held o_targets o_weights), (wI g n_kind 0 12 f_59930), (wI g n_pay 0 12 f_59931), (wI g n_name 0 12 f_59932), (wI g n_ways 0 12 n_fways), (wI g n_held 0 12 n_fheld), (wI g n_targets 0 36 n_ftargets), (wI g n_weights 0 36 n_fweights), (wI g o_kind 0 12 o_fkind), (wI g o_pay 0 12 o_fpay), (wI g o_name 0 12 o_fname), (wI g o_ways 0 12 o_fways), (wI g o_held 0 12 o_fheld), (wI g o_targets 0 36 o_ftargets), (wI g o_weights 0 36 o_fweights)] := hD
  refine lv_aload_n hx hb dX2_copyFrom_53 rfl (lv_at hl 1 rfl) ?_
  refine va_get (D := D) (ci := 2) (v := .ref o_ways) (C := RX2) (T := TX2) (N := 8) hx hb hts inlX2 hown hK hP 1 rfl rfl 4 (by decide) (hts (Cond.fieldLink RX2 21 "ChanceRings$Net" "ways" "[I") qw_318) (fun _ h9 => h9) rfl dX2_copyFrom_54 ?_
  refine lv_iconst (v := 0) hx hb dX2_copyFrom_57 (by decide) ?_
  refine lv_aload_n hx hb dX2_copyFrom_58 rfl (lv_at hl 0 rfl) ?_
  refine va_get (D := D) (ci := 2) (v := .ref n_ways) (C := RX2) (T := TX2) (N := 8) hx hb hts inlX2 hown hK hP 0 rfl rfl 4 (by decide) (hts (Cond.fieldLink RX2 21 "ChanceRings$Net" "ways" "[I") qw_318) (fun _ h9 => h9) rfl dX2_copyFrom_59 ?_
  refine lv_iconst (v := 0) hx hb dX2_copyFrom_62 (by decide) ?_
  refine lv_bipush (v := 12) hx hb dX2_copyFrom_63 (by decide) ?_
  refine va_copyi (ty := .int) hx hb (by rw [hml]; exact hl.1.symm) hown (hts (Cond.methodLink RX2 37 arraycopyName) qw_342) (hts (Cond.native arraycopyName) qw_343) (hts (Cond.static arraycopyName) qw_344) (hts (Cond.initialized "java/lang/System") qw_345) hK hP hD hS 12 5 0 0 rfl rfl rfl rfl rfl (by decide) (by decide) (by decide) (by decide +kernel) (by decide +kernel) (fun _ _ => rfl) (Nat.le_of_ble_eq_true rfl) (Nat.le_of_ble_eq_true rfl) dX2_copyFrom_65 (fun H locs hP hD hS => ?_)
  obtain ⟨f_59933, h_f_59933, hP, hD⟩ : ∃ FX : Nat → Int32, (∀ j : Nat, 0 ≤ (FX j).toInt ∧ (FX j).toInt ≤ 3) ∧ va_P D vwCl [(wO2 n o_nodes n_kind n_pay n_name n_ways n_held n_targets n_weights), (wO2 o o_nodes o_kind o_pay o_name o_ways o_held o_targets o_weights), (wI g n_kind 0 12 f_59930), (wI g n_pay 0 12 f_59931), (wI g n_name 0 12 f_59932), (wI g n_ways 0 12 FX), (wI g n_held 0 12 n_fheld), (wI g n_targets 0 36 n_ftargets), (wI g n_weights 0 36 n_fweights), (wI g o_kind 0 12 o_fkind), (wI g o_pay 0 12 o_fpay), (wI g o_name 0 12 o_fname), (wI g o_ways 0 12 o_fways), (wI g o_held 0 12 o_fheld), (wI g o_targets 0 36 o_ftargets), (wI g o_weights 0 36 o_fweights)] H ∧ va_D A [(wO2 n o_nodes n_kind n_pay n_name n_ways n_held n_targets n_weights), (wO2 o o_nodes o_kind o_pay o_name o_ways o_held o_targets o_weights), (wI g n_kind 0 12 f_59930), (wI g n_pay 0 12 f_59931), (wI g n_name 0 12 f_59932), (wI g n_ways 0 12 FX), (wI g n_held 0 12 n_fheld), (wI g n_targets 0 36 n_ftargets), (wI g n_weights 0 36 n_fweights), (wI g o_kind 0 12 o_fkind), (wI g o_pay 0 12 o_fpay), (wI g o_name 0 12 o_fname), (wI g o_ways 0 12 o_fways), (wI g o_held 0 12 o_fheld), (wI g o_targets 0 36 o_ftargets), (wI g o_weights 0 36 o_fweights)] := ⟨_, tr_cpy (tr_wa h_o_fways (by decide) (by decide)) h_n_fways, hP, hD⟩
  have hP : va_P D vwCl [(wO2 n o_nodes n_kind n_pay n_name n_ways n_held n_targets n_weights), (wO2 o o_nodes o_kind o_pay o_name o_ways o_held o_targets o_weights), (wI g n_kind 0 12 f_59930), (wI g n_pay 0 12 f_59931), (wI g n_name 0 12 f_59932), (wI g n_ways 0 12 f_59933), (wI g n_held 0 12 n_fheld), (wI g n_targets 0 36 n_ftargets), (wI g n_weights 0 36 n_fweights), (wI g o_kind 0 12 o_fkind), (wI g o_pay 0 12 o_fpay), (wI g o_name 0 12 o_fname), (wI g o_ways 0 12 o_fways), (wI g o_held 0 12 o_fheld), (wI g o_targets 0 36 o_ftargets), (wI g o_weights 0 36 o_fweights)] H := hP
  have hD : va_D A [(wO2 n o_nodes n_kind n_pay n_name n_ways n_held n_targets n_weights), (wO2 o o_nodes o_kind o_pay o_name o_ways o_held o_targets o_weights), (wI g n_kind 0 12 f_59930), (wI g n_pay 0 12 f_59931), (wI g n_name 0 12 f_59932), (wI g n_ways 0 12 f_59933), (wI g n_held 0 12 n_fheld), (wI g n_targets 0 36 n_ftargets), (wI g n_weights 0 36 n_fweights), (wI g o_kind 0 12 o_fkind), (wI g o_pay 0 12 o_fpay), (wI g o_name 0 12 o_fname), (wI g o_ways 0 12 o_fways), (wI g o_held 0 12 o_fheld), (wI g o_targets 0 36 o_ftargets), (wI g o_weights 0 36 o_fweights)] := hD
  refine lv_aload_n hx hb dX2_copyFrom_68 rfl (lv_at hl 1 rfl) ?_
  refine va_get (D := D) (ci := 2) (v := .ref o_held) (C := RX2) (T := TX2) (N := 8) hx hb hts inlX2 hown hK hP 1 rfl rfl 5 (by decide) (hts (Cond.fieldLink RX2 24 "ChanceRings$Net" "held" "[I") qw_314) (fun _ h9 => h9) rfl dX2_copyFrom_69 ?_
  refine lv_iconst (v := 0) hx hb dX2_copyFrom_72 (by decide) ?_
  refine lv_aload_n hx hb dX2_copyFrom_73 rfl (lv_at hl 0 rfl) ?_
  refine va_get (D := D) (ci := 2) (v := .ref n_held) (C := RX2) (T := TX2) (N := 8) hx hb hts inlX2 hown hK hP 0 rfl rfl 5 (by decide) (hts (Cond.fieldLink RX2 24 "ChanceRings$Net" "held" "[I") qw_314) (fun _ h9 => h9) rfl dX2_copyFrom_74 ?_
  refine lv_iconst (v := 0) hx hb dX2_copyFrom_77 (by decide) ?_
  refine lv_bipush (v := 12) hx hb dX2_copyFrom_78 (by decide) ?_
  refine va_copyi (ty := .int) hx hb (by rw [hml]; exact hl.1.symm) hown (hts (Cond.methodLink RX2 37 arraycopyName) qw_342) (hts (Cond.native arraycopyName) qw_343) (hts (Cond.static arraycopyName) qw_344) (hts (Cond.initialized "java/lang/System") qw_345) hK hP hD hS 13 6 0 0 rfl rfl rfl rfl rfl (by decide) (by decide) (by decide) (by decide +kernel) (by decide +kernel) (fun _ _ => rfl) (Nat.le_of_ble_eq_true rfl) (Nat.le_of_ble_eq_true rfl) dX2_copyFrom_80 (fun H locs hP hD hS => ?_)
  obtain ⟨f_59934, h_f_59934, hP, hD⟩ : ∃ FX : Nat → Int32, (∀ j : Nat, (-1) ≤ (FX j).toInt ∧ (FX j).toInt ≤ 2) ∧ va_P D vwCl [(wO2 n o_nodes n_kind n_pay n_name n_ways n_held n_targets n_weights), (wO2 o o_nodes o_kind o_pay o_name o_ways o_held o_targets o_weights), (wI g n_kind 0 12 f_59930), (wI g n_pay 0 12 f_59931), (wI g n_name 0 12 f_59932), (wI g n_ways 0 12 f_59933), (wI g n_held 0 12 FX), (wI g n_targets 0 36 n_ftargets), (wI g n_weights 0 36 n_fweights), (wI g o_kind 0 12 o_fkind), (wI g o_pay 0 12 o_fpay), (wI g o_name 0 12 o_fname), (wI g o_ways 0 12 o_fways), (wI g o_held 0 12 o_fheld), (wI g o_targets 0 36 o_ftargets), (wI g o_weights 0 36 o_fweights)] H ∧ va_D A [(wO2 n o_nodes n_kind n_pay n_name n_ways n_held n_targets n_weights), (wO2 o o_nodes o_kind o_pay o_name o_ways o_held o_targets o_weights), (wI g n_kind 0 12 f_59930), (wI g n_pay 0 12 f_59931), (wI g n_name 0 12 f_59932), (wI g n_ways 0 12 f_59933), (wI g n_held 0 12 FX), (wI g n_targets 0 36 n_ftargets), (wI g n_weights 0 36 n_fweights), (wI g o_kind 0 12 o_fkind), (wI g o_pay 0 12 o_fpay), (wI g o_name 0 12 o_fname), (wI g o_ways 0 12 o_fways), (wI g o_held 0 12 o_fheld), (wI g o_targets 0 36 o_ftargets), (wI g o_weights 0 36 o_fweights)] := ⟨_, tr_cpy (tr_wa h_o_fheld (by decide) (by decide)) h_n_fheld, hP, hD⟩
  have hP : va_P D vwCl [(wO2 n o_nodes n_kind n_pay n_name n_ways n_held n_targets n_weights), (wO2 o o_nodes o_kind o_pay o_name o_ways o_held o_targets o_weights), (wI g n_kind 0 12 f_59930), (wI g n_pay 0 12 f_59931), (wI g n_name 0 12 f_59932), (wI g n_ways 0 12 f_59933), (wI g n_held 0 12 f_59934), (wI g n_targets 0 36 n_ftargets), (wI g n_weights 0 36 n_fweights), (wI g o_kind 0 12 o_fkind), (wI g o_pay 0 12 o_fpay), (wI g o_name 0 12 o_fname), (wI g o_ways 0 12 o_fways), (wI g o_held 0 12 o_fheld), (wI g o_targets 0 36 o_ftargets), (wI g o_weights 0 36 o_fweights)] H := hP
  have hD : va_D A [(wO2 n o_nodes n_kind n_pay n_name n_ways n_held n_targets n_weights), (wO2 o o_nodes o_kind o_pay o_name o_ways o_held o_targets o_weights), (wI g n_kind 0 12 f_59930), (wI g n_pay 0 12 f_59931), (wI g n_name 0 12 f_59932), (wI g n_ways 0 12 f_59933), (wI g n_held 0 12 f_59934), (wI g n_targets 0 36 n_ftargets), (wI g n_weights 0 36 n_fweights), (wI g o_kind 0 12 o_fkind), (wI g o_pay 0 12 o_fpay), (wI g o_name 0 12 o_fname), (wI g o_ways 0 12 o_fways), (wI g o_held 0 12 o_fheld), (wI g o_targets 0 36 o_ftargets), (wI g o_weights 0 36 o_fweights)] := hD
  refine lv_aload_n hx hb dX2_copyFrom_83 rfl (lv_at hl 1 rfl) ?_
  refine va_get (D := D) (ci := 2) (v := .ref o_targets) (C := RX2) (T := TX2) (N := 8) hx hb hts inlX2 hown hK hP 1 rfl rfl 6 (by decide) (hts (Cond.fieldLink RX2 27 "ChanceRings$Net" "targets" "[I") qw_315) (fun _ h9 => h9) rfl dX2_copyFrom_84 ?_
  refine lv_iconst (v := 0) hx hb dX2_copyFrom_87 (by decide) ?_
  refine lv_aload_n hx hb dX2_copyFrom_88 rfl (lv_at hl 0 rfl) ?_
  refine va_get (D := D) (ci := 2) (v := .ref n_targets) (C := RX2) (T := TX2) (N := 8) hx hb hts inlX2 hown hK hP 0 rfl rfl 6 (by decide) (hts (Cond.fieldLink RX2 27 "ChanceRings$Net" "targets" "[I") qw_315) (fun _ h9 => h9) rfl dX2_copyFrom_89 ?_
  refine lv_iconst (v := 0) hx hb dX2_copyFrom_92 (by decide) ?_
  refine lv_bipush (v := 36) hx hb dX2_copyFrom_93 (by decide) ?_
  refine va_copyi (ty := .int) hx hb (by rw [hml]; exact hl.1.symm) hown (hts (Cond.methodLink RX2 37 arraycopyName) qw_342) (hts (Cond.native arraycopyName) qw_343) (hts (Cond.static arraycopyName) qw_344) (hts (Cond.initialized "java/lang/System") qw_345) hK hP hD hS 14 7 0 0 rfl rfl rfl rfl rfl (by decide) (by decide) (by decide) (by decide +kernel) (by decide +kernel) (fun _ _ => rfl) (Nat.le_of_ble_eq_true rfl) (Nat.le_of_ble_eq_true rfl) dX2_copyFrom_95 (fun H locs hP hD hS => ?_)
  obtain ⟨f_59935, h_f_59935, hP, hD⟩ : ∃ FX : Nat → Int32, (∀ j : Nat, 0 ≤ (FX j).toInt ∧ (FX j).toInt ≤ 11) ∧ va_P D vwCl [(wO2 n o_nodes n_kind n_pay n_name n_ways n_held n_targets n_weights), (wO2 o o_nodes o_kind o_pay o_name o_ways o_held o_targets o_weights), (wI g n_kind 0 12 f_59930), (wI g n_pay 0 12 f_59931), (wI g n_name 0 12 f_59932), (wI g n_ways 0 12 f_59933), (wI g n_held 0 12 f_59934), (wI g n_targets 0 36 FX), (wI g n_weights 0 36 n_fweights), (wI g o_kind 0 12 o_fkind), (wI g o_pay 0 12 o_fpay), (wI g o_name 0 12 o_fname), (wI g o_ways 0 12 o_fways), (wI g o_held 0 12 o_fheld), (wI g o_targets 0 36 o_ftargets), (wI g o_weights 0 36 o_fweights)] H ∧ va_D A [(wO2 n o_nodes n_kind n_pay n_name n_ways n_held n_targets n_weights), (wO2 o o_nodes o_kind o_pay o_name o_ways o_held o_targets o_weights), (wI g n_kind 0 12 f_59930), (wI g n_pay 0 12 f_59931), (wI g n_name 0 12 f_59932), (wI g n_ways 0 12 f_59933), (wI g n_held 0 12 f_59934), (wI g n_targets 0 36 FX), (wI g n_weights 0 36 n_fweights), (wI g o_kind 0 12 o_fkind), (wI g o_pay 0 12 o_fpay), (wI g o_name 0 12 o_fname), (wI g o_ways 0 12 o_fways), (wI g o_held 0 12 o_fheld), (wI g o_targets 0 36 o_ftargets), (wI g o_weights 0 36 o_fweights)] := ⟨_, tr_cpy (tr_wa h_o_ftargets (by decide) (by decide)) h_n_ftargets, hP, hD⟩
  have hP : va_P D vwCl [(wO2 n o_nodes n_kind n_pay n_name n_ways n_held n_targets n_weights), (wO2 o o_nodes o_kind o_pay o_name o_ways o_held o_targets o_weights), (wI g n_kind 0 12 f_59930), (wI g n_pay 0 12 f_59931), (wI g n_name 0 12 f_59932), (wI g n_ways 0 12 f_59933), (wI g n_held 0 12 f_59934), (wI g n_targets 0 36 f_59935), (wI g n_weights 0 36 n_fweights), (wI g o_kind 0 12 o_fkind), (wI g o_pay 0 12 o_fpay), (wI g o_name 0 12 o_fname), (wI g o_ways 0 12 o_fways), (wI g o_held 0 12 o_fheld), (wI g o_targets 0 36 o_ftargets), (wI g o_weights 0 36 o_fweights)] H := hP
  have hD : va_D A [(wO2 n o_nodes n_kind n_pay n_name n_ways n_held n_targets n_weights), (wO2 o o_nodes o_kind o_pay o_name o_ways o_held o_targets o_weights), (wI g n_kind 0 12 f_59930), (wI g n_pay 0 12 f_59931), (wI g n_name 0 12 f_59932), (wI g n_ways 0 12 f_59933), (wI g n_held 0 12 f_59934), (wI g n_targets 0 36 f_59935), (wI g n_weights 0 36 n_fweights), (wI g o_kind 0 12 o_fkind), (wI g o_pay 0 12 o_fpay), (wI g o_name 0 12 o_fname), (wI g o_ways 0 12 o_fways), (wI g o_held 0 12 o_fheld), (wI g o_targets 0 36 o_ftargets), (wI g o_weights 0 36 o_fweights)] := hD
  refine lv_aload_n hx hb dX2_copyFrom_98 rfl (lv_at hl 1 rfl) ?_
  refine va_get (D := D) (ci := 2) (v := .ref o_weights) (C := RX2) (T := TX2) (N := 8) hx hb hts inlX2 hown hK hP 1 rfl rfl 7 (by decide) (hts (Cond.fieldLink RX2 30 "ChanceRings$Net" "weights" "[I") qw_332) (fun _ h9 => h9) rfl dX2_copyFrom_99 ?_
  refine lv_iconst (v := 0) hx hb dX2_copyFrom_102 (by decide) ?_
  refine lv_aload_n hx hb dX2_copyFrom_103 rfl (lv_at hl 0 rfl) ?_
  refine va_get (D := D) (ci := 2) (v := .ref n_weights) (C := RX2) (T := TX2) (N := 8) hx hb hts inlX2 hown hK hP 0 rfl rfl 7 (by decide) (hts (Cond.fieldLink RX2 30 "ChanceRings$Net" "weights" "[I") qw_332) (fun _ h9 => h9) rfl dX2_copyFrom_104 ?_
  refine lv_iconst (v := 0) hx hb dX2_copyFrom_107 (by decide) ?_
  refine lv_bipush (v := 36) hx hb dX2_copyFrom_108 (by decide) ?_
  refine va_copyi (ty := .int) hx hb (by rw [hml]; exact hl.1.symm) hown (hts (Cond.methodLink RX2 37 arraycopyName) qw_342) (hts (Cond.native arraycopyName) qw_343) (hts (Cond.static arraycopyName) qw_344) (hts (Cond.initialized "java/lang/System") qw_345) hK hP hD hS 15 8 0 0 rfl rfl rfl rfl rfl (by decide) (by decide) (by decide) (by decide +kernel) (by decide +kernel) (fun _ _ => rfl) (Nat.le_of_ble_eq_true rfl) (Nat.le_of_ble_eq_true rfl) dX2_copyFrom_110 (fun H locs hP hD hS => ?_)
  obtain ⟨f_59936, hP, hD⟩ : ∃ FX : Nat → Int32, va_P D vwCl [(wO2 n o_nodes n_kind n_pay n_name n_ways n_held n_targets n_weights), (wO2 o o_nodes o_kind o_pay o_name o_ways o_held o_targets o_weights), (wI g n_kind 0 12 f_59930), (wI g n_pay 0 12 f_59931), (wI g n_name 0 12 f_59932), (wI g n_ways 0 12 f_59933), (wI g n_held 0 12 f_59934), (wI g n_targets 0 36 f_59935), (wI g n_weights 0 36 FX), (wI g o_kind 0 12 o_fkind), (wI g o_pay 0 12 o_fpay), (wI g o_name 0 12 o_fname), (wI g o_ways 0 12 o_fways), (wI g o_held 0 12 o_fheld), (wI g o_targets 0 36 o_ftargets), (wI g o_weights 0 36 o_fweights)] H ∧ va_D A [(wO2 n o_nodes n_kind n_pay n_name n_ways n_held n_targets n_weights), (wO2 o o_nodes o_kind o_pay o_name o_ways o_held o_targets o_weights), (wI g n_kind 0 12 f_59930), (wI g n_pay 0 12 f_59931), (wI g n_name 0 12 f_59932), (wI g n_ways 0 12 f_59933), (wI g n_held 0 12 f_59934), (wI g n_targets 0 36 f_59935), (wI g n_weights 0 36 FX), (wI g o_kind 0 12 o_fkind), (wI g o_pay 0 12 o_fpay), (wI g o_name 0 12 o_fname), (wI g o_ways 0 12 o_fways), (wI g o_held 0 12 o_fheld), (wI g o_targets 0 36 o_ftargets), (wI g o_weights 0 36 o_fweights)] := ⟨_, hP, hD⟩
  have hP : va_P D vwCl [(wO2 n o_nodes n_kind n_pay n_name n_ways n_held n_targets n_weights), (wO2 o o_nodes o_kind o_pay o_name o_ways o_held o_targets o_weights), (wI g n_kind 0 12 f_59930), (wI g n_pay 0 12 f_59931), (wI g n_name 0 12 f_59932), (wI g n_ways 0 12 f_59933), (wI g n_held 0 12 f_59934), (wI g n_targets 0 36 f_59935), (wI g n_weights 0 36 f_59936), (wI g o_kind 0 12 o_fkind), (wI g o_pay 0 12 o_fpay), (wI g o_name 0 12 o_fname), (wI g o_ways 0 12 o_fways), (wI g o_held 0 12 o_fheld), (wI g o_targets 0 36 o_ftargets), (wI g o_weights 0 36 o_fweights)] H := hP
  have hD : va_D A [(wO2 n o_nodes n_kind n_pay n_name n_ways n_held n_targets n_weights), (wO2 o o_nodes o_kind o_pay o_name o_ways o_held o_targets o_weights), (wI g n_kind 0 12 f_59930), (wI g n_pay 0 12 f_59931), (wI g n_name 0 12 f_59932), (wI g n_ways 0 12 f_59933), (wI g n_held 0 12 f_59934), (wI g n_targets 0 36 f_59935), (wI g n_weights 0 36 f_59936), (wI g o_kind 0 12 o_fkind), (wI g o_pay 0 12 o_fpay), (wI g o_name 0 12 o_fname), (wI g o_ways 0 12 o_fways), (wI g o_held 0 12 o_fheld), (wI g o_targets 0 36 o_ftargets), (wI g o_weights 0 36 o_fweights)] := hD
  have hP9 := hP.sub (ws' := [(wO2 n o_nodes n_kind n_pay n_name n_ways n_held n_targets n_weights), (wO2 o o_nodes o_kind o_pay o_name o_ways o_held o_targets o_weights), (wI g n_kind 0 12 f_59930), (wI g n_pay 0 12 f_59931), (wI g n_name 0 12 f_59932), (wI g n_ways 0 12 f_59933), (wI g n_held 0 12 f_59934), (wI g n_targets 0 36 f_59935), (wI g n_weights 0 36 f_59936), (wI g o_kind 0 12 o_fkind), (wI g o_pay 0 12 o_fpay), (wI g o_name 0 12 o_fname), (wI g o_ways 0 12 o_fways), (wI g o_held 0 12 o_fheld), (wI g o_targets 0 36 o_ftargets), (wI g o_weights 0 36 o_fweights)]) [0, 1, 2, 3, 4, 5, 6, 7, 8, 9, 10, 11, 12, 13, 14, 15] rfl
  have hD9 := hD.sub (ws' := [(wO2 n o_nodes n_kind n_pay n_name n_ways n_held n_targets n_weights), (wO2 o o_nodes o_kind o_pay o_name o_ways o_held o_targets o_weights), (wI g n_kind 0 12 f_59930), (wI g n_pay 0 12 f_59931), (wI g n_name 0 12 f_59932), (wI g n_ways 0 12 f_59933), (wI g n_held 0 12 f_59934), (wI g n_targets 0 36 f_59935), (wI g n_weights 0 36 f_59936), (wI g o_kind 0 12 o_fkind), (wI g o_pay 0 12 o_fpay), (wI g o_name 0 12 o_fname), (wI g o_ways 0 12 o_fways), (wI g o_held 0 12 o_fheld), (wI g o_targets 0 36 o_ftargets), (wI g o_weights 0 36 o_fweights)]) [0, 1, 2, 3, 4, 5, 6, 7, 8, 9, 10, 11, 12, 13, 14, 15] (by decide) rfl
  exact W.vret hx hb hr (fun t ht hW => ⟨⟨(), rfl, trivial, f_59930, f_59931, f_59932, f_59933, f_59934, f_59935, f_59936, (tr_wa h_f_59930 (by decide) (by decide)), (tr_wa h_f_59933 (by decide) (by decide)), (tr_wa h_f_59934 (by decide) (by decide)), (tr_wa h_f_59935 (by decide) (by decide)), by rw [ht]; exact hP9, hD9⟩, hS.F ht⟩) hS.2.2 dX2_copyFrom_113
theorem absC_cpy {nd : Int32} {k y n w h t x k1 y1 n1 w1 h1 t1 x1 k2 y2 n2 w2 h2 t2 x2 : Nat → Int32} (ek : k2 = va_cpy k k1 0 0 12) (ey : y2 = va_cpy y y1 0 0 12) (en : n2 = va_cpy n n1 0 0 12) (ew : w2 = va_cpy w w1 0 0 12) (eh : h2 = va_cpy h h1 0 0 12) (et : t2 = va_cpy t t1 0 0 36) (ex : x2 = va_cpy x x1 0 0 36) : EqC (absC nd k2 y2 n2 w2 h2 t2 x2) (absC nd k y n w h t x) := fun j hj => by
  have c : ∀ {f g h : Nat → Int32} {m i : Nat}, h = va_cpy f g 0 0 m → i < m → h i = f i := fun {f g h m i} e hi => by
    rw [e]; unfold va_cpy
    rw [if_pos (by omega), show 0 + (i - 0) = i by omega]
  unfold absC
  repeat' split
  all_goals first | rfl | rw [c ek (by omega)] | rw [c ey (by omega)] | rw [c ew (by omega)] | rw [c et (by omega)] | rw [c ex (by omega)] | rw [c eh (by omega)] | rw [c en (by omega)]
set_option maxHeartbeats 4000000 in
set_option maxRecDepth 100000 in
theorem c_X2_copyFromN (l : Launch) (D : va_G) (g : Nat → ClassId) (sz : Nat) (n : Nat) (o : Nat) (n_nodes : Int32) (n_kind : Nat) (n_pay : Nat) (n_name : Nat) (n_ways : Nat) (n_held : Nat) (n_targets : Nat) (n_weights : Nat) (o_nodes : Int32) (o_kind : Nat) (o_pay : Nat) (o_name : Nat) (o_ways : Nat) (o_held : Nat) (o_targets : Nat) (o_weights : Nat) (n_fkind : Nat → Int32) (n_fpay : Nat → Int32) (n_fname : Nat → Int32) (n_fways : Nat → Int32) (n_fheld : Nat → Int32) (n_ftargets : Nat → Int32) (n_fweights : Nat → Int32) (o_fkind : Nat → Int32) (o_fpay : Nat → Int32) (o_fname : Nat → Int32) (o_fways : Nat → Int32) (o_fheld : Nat → Int32) (o_ftargets : Nat → Int32) (o_fweights : Nat → Int32) (h_n_nodes : 0 ≤ (n_nodes : Int32).toInt ∧ (n_nodes : Int32).toInt ≤ 12) (h_o_nodes : 0 ≤ (o_nodes : Int32).toInt ∧ (o_nodes : Int32).toInt ≤ 12) (h_n_fkind : ∀ j : Nat, 0 ≤ (n_fkind j).toInt ∧ (n_fkind j).toInt ≤ 3) (h_n_fways : ∀ j : Nat, 0 ≤ (n_fways j).toInt ∧ (n_fways j).toInt ≤ 3) (h_n_fheld : ∀ j : Nat, (-1) ≤ (n_fheld j).toInt ∧ (n_fheld j).toInt ≤ 2) (h_n_ftargets : ∀ j : Nat, 0 ≤ (n_ftargets j).toInt ∧ (n_ftargets j).toInt ≤ 11) (h_o_fkind : ∀ j : Nat, 0 ≤ (o_fkind j).toInt ∧ (o_fkind j).toInt ≤ 3) (h_o_fways : ∀ j : Nat, 0 ≤ (o_fways j).toInt ∧ (o_fways j).toInt ≤ 3) (h_o_fheld : ∀ j : Nat, (-1) ≤ (o_fheld j).toInt ∧ (o_fheld j).toInt ≤ 2) (h_o_ftargets : ∀ j : Nat, 0 ≤ (o_ftargets j).toInt ∧ (o_ftargets j).toInt ≤ 11) : Met l yX2_copyFrom (.code yX2_copyFrom cX2_copyFrom 2 none :: wsL_law) ({ frames := 1, cells := 0, slots := 0, locals := 60 }) (va_Pc [.ref n, .ref o] (fun U => U.heap.size = sz ∧ va_P D vwCl [(wO2 n n_nodes n_kind n_pay n_name n_ways n_held n_targets n_weights), (wO2 o o_nodes o_kind o_pay o_name o_ways o_held o_targets o_weights), (wI g n_kind 0 12 n_fkind), (wI g n_pay 0 12 n_fpay), (wI g n_name 0 12 n_fname), (wI g n_ways 0 12 n_fways), (wI g n_held 0 12 n_fheld), (wI g n_targets 0 36 n_ftargets), (wI g n_weights 0 36 n_fweights), (wI g o_kind 0 12 o_fkind), (wI g o_pay 0 12 o_fpay), (wI g o_name 0 12 o_fname), (wI g o_ways 0 12 o_fways), (wI g o_held 0 12 o_fheld), (wI g o_targets 0 36 o_ftargets), (wI g o_weights 0 36 o_fweights)] U.heap ∧ va_K D vwCl (TY g) U ∧ va_D (fun _ => True) [(wO2 n n_nodes n_kind n_pay n_name n_ways n_held n_targets n_weights), (wO2 o o_nodes o_kind o_pay o_name o_ways o_held o_targets o_weights), (wI g n_kind 0 12 n_fkind), (wI g n_pay 0 12 n_fpay), (wI g n_name 0 12 n_fname), (wI g n_ways 0 12 n_fways), (wI g n_held 0 12 n_fheld), (wI g n_targets 0 36 n_ftargets), (wI g n_weights 0 36 n_fweights), (wI g o_kind 0 12 o_fkind), (wI g o_pay 0 12 o_fpay), (wI g o_name 0 12 o_fname), (wI g o_ways 0 12 o_fways), (wI g o_held 0 12 o_fheld), (wI g o_targets 0 36 o_ftargets), (wI g o_weights 0 36 o_fweights)])) (va_Qv (fun (_ : Unit) => True) (fun _ t => ∃ n_gkind : Nat → Int32, ∃ n_gpay : Nat → Int32, ∃ n_gname : Nat → Int32, ∃ n_gways : Nat → Int32, ∃ n_gheld : Nat → Int32, ∃ n_gtargets : Nat → Int32, ∃ n_gweights : Nat → Int32, (∀ j : Nat, 0 ≤ (n_gkind j).toInt ∧ (n_gkind j).toInt ≤ 3) ∧ (∀ j : Nat, 0 ≤ (n_gways j).toInt ∧ (n_gways j).toInt ≤ 3) ∧ (∀ j : Nat, (-1) ≤ (n_gheld j).toInt ∧ (n_gheld j).toInt ≤ 2) ∧ (∀ j : Nat, 0 ≤ (n_gtargets j).toInt ∧ (n_gtargets j).toInt ≤ 11) ∧ (EqC (absC o_nodes n_gkind n_gpay n_gname n_gways n_gheld n_gtargets n_gweights) (absC o_nodes o_fkind o_fpay o_fname o_fways o_fheld o_ftargets o_fweights)) ∧ va_P D vwCl [(wO2 n o_nodes n_kind n_pay n_name n_ways n_held n_targets n_weights), (wO2 o o_nodes o_kind o_pay o_name o_ways o_held o_targets o_weights), (wI g n_kind 0 12 n_gkind), (wI g n_pay 0 12 n_gpay), (wI g n_name 0 12 n_gname), (wI g n_ways 0 12 n_gways), (wI g n_held 0 12 n_gheld), (wI g n_targets 0 36 n_gtargets), (wI g n_weights 0 36 n_gweights), (wI g o_kind 0 12 o_fkind), (wI g o_pay 0 12 o_fpay), (wI g o_name 0 12 o_fname), (wI g o_ways 0 12 o_fways), (wI g o_held 0 12 o_fheld), (wI g o_targets 0 36 o_ftargets), (wI g o_weights 0 36 o_fweights)] t.heap ∧ va_D (va_A [(wO2 n n_nodes n_kind n_pay n_name n_ways n_held n_targets n_weights), (wO2 o o_nodes o_kind o_pay o_name o_ways o_held o_targets o_weights), (wI g n_kind 0 12 n_fkind), (wI g n_pay 0 12 n_fpay), (wI g n_name 0 12 n_fname), (wI g n_ways 0 12 n_fways), (wI g n_held 0 12 n_fheld), (wI g n_targets 0 36 n_ftargets), (wI g n_weights 0 36 n_fweights), (wI g o_kind 0 12 o_fkind), (wI g o_pay 0 12 o_fpay), (wI g o_name 0 12 o_fname), (wI g o_ways 0 12 o_fways), (wI g o_held 0 12 o_fheld), (wI g o_targets 0 36 o_ftargets), (wI g o_weights 0 36 o_fweights)] sz) [(wO2 n o_nodes n_kind n_pay n_name n_ways n_held n_targets n_weights), (wO2 o o_nodes o_kind o_pay o_name o_ways o_held o_targets o_weights), (wI g n_kind 0 12 n_gkind), (wI g n_pay 0 12 n_gpay), (wI g n_name 0 12 n_gname), (wI g n_ways 0 12 n_gways), (wI g n_held 0 12 n_gheld), (wI g n_targets 0 36 n_gtargets), (wI g n_weights 0 36 n_gweights), (wI g o_kind 0 12 o_fkind), (wI g o_pay 0 12 o_fpay), (wI g o_name 0 12 o_fname), (wI g o_ways 0 12 o_fways), (wI g o_held 0 12 o_fheld), (wI g o_targets 0 36 o_ftargets), (wI g o_weights 0 36 o_fweights)]) (va_A [(wO2 n n_nodes n_kind n_pay n_name n_ways n_held n_targets n_weights), (wO2 o o_nodes o_kind o_pay o_name o_ways o_held o_targets o_weights), (wI g n_kind 0 12 n_fkind), (wI g n_pay 0 12 n_fpay), (wI g n_name 0 12 n_fname), (wI g n_ways 0 12 n_fways), (wI g n_held 0 12 n_fheld), (wI g n_targets 0 36 n_ftargets), (wI g n_weights 0 36 n_fweights), (wI g o_kind 0 12 o_fkind), (wI g o_pay 0 12 o_fpay), (wI g o_name 0 12 o_fname), (wI g o_ways 0 12 o_fways), (wI g o_held 0 12 o_fheld), (wI g o_targets 0 36 o_ftargets), (wI g o_weights 0 36 o_fweights)] sz)) 0 0 (va_A [(wO2 n n_nodes n_kind n_pay n_name n_ways n_held n_targets n_weights), (wO2 o o_nodes o_kind o_pay o_name o_ways o_held o_targets o_weights), (wI g n_kind 0 12 n_fkind), (wI g n_pay 0 12 n_fpay), (wI g n_name 0 12 n_fname), (wI g n_ways 0 12 n_fways), (wI g n_held 0 12 n_fheld), (wI g n_targets 0 36 n_ftargets), (wI g n_weights 0 36 n_fweights), (wI g o_kind 0 12 o_fkind), (wI g o_pay 0 12 o_fpay), (wI g o_name 0 12 o_fname), (wI g o_ways 0 12 o_fways), (wI g o_held 0 12 o_fheld), (wI g o_targets 0 36 o_ftargets), (wI g o_weights 0 36 o_fweights)] sz) := by
  refine Met.ofW (cc := cX2_copyFrom) (maxL := 2) (ret := none) (by decide) rfl ?_
  intro p e s m args below meth c s₁ B hml hv
  obtain ⟨ha, hsz, hP, hK, hD0⟩ := hv
  have hx := B.exec
  have hb := B.bytes
  have hr := B.returns
  have hts0 := atoms_spec (ws := (.code yX2_copyFrom cX2_copyFrom 2 none :: wsL_law)) B.pre
  have hts : ∀ w ∈ wsL_law, w.before args s = true := fun w h => hts0 w (List.mem_cons_of_mem _ h)
  have hown : s.vm.findClass RX2 = some m.cls := findClass_of_methodNamed B.named
  have hlocks := B.notSynchronized
  subst hsz
  have hD := hD0.self (sz := s.heap.size)
  generalize hAe : va_A [(wO2 n n_nodes n_kind n_pay n_name n_ways n_held n_targets n_weights), (wO2 o o_nodes o_kind o_pay o_name o_ways o_held o_targets o_weights), (wI g n_kind 0 12 n_fkind), (wI g n_pay 0 12 n_fpay), (wI g n_name 0 12 n_fname), (wI g n_ways 0 12 n_fways), (wI g n_held 0 12 n_fheld), (wI g n_targets 0 36 n_ftargets), (wI g n_weights 0 36 n_fweights), (wI g o_kind 0 12 o_fkind), (wI g o_pay 0 12 o_fpay), (wI g o_name 0 12 o_fname), (wI g o_ways 0 12 o_fways), (wI g o_held 0 12 o_fheld), (wI g o_targets 0 36 o_ftargets), (wI g o_weights 0 36 o_fweights)] s.heap.size = A at hD ⊢
  have hA : ∀ q : Nat, s.heap.size ≤ q → A q := fun q h => by rw [← hAe]; exact Or.inr h
  have hS : va_S A s.heap s.heap [] := va_S.rf
  have hP : va_P D vwCl [(wO2 n n_nodes n_kind n_pay n_name n_ways n_held n_targets n_weights), (wO2 o o_nodes o_kind o_pay o_name o_ways o_held o_targets o_weights), (wI g n_kind 0 12 n_fkind), (wI g n_pay 0 12 n_fpay), (wI g n_name 0 12 n_fname), (wI g n_ways 0 12 n_fways), (wI g n_held 0 12 n_fheld), (wI g n_targets 0 36 n_ftargets), (wI g n_weights 0 36 n_fweights), (wI g o_kind 0 12 o_fkind), (wI g o_pay 0 12 o_fpay), (wI g o_name 0 12 o_fname), (wI g o_ways 0 12 o_fways), (wI g o_held 0 12 o_fheld), (wI g o_targets 0 36 o_ftargets), (wI g o_weights 0 36 o_fweights)] s.heap := hP
  refine W.eq (g2 := entryFrame m ([.ref n, .ref o] : List Value).toArray 2) (by rw [ha]) ?_
  have hl := lv_entry ([.ref n, .ref o]) (n := 2) (Nat.le_of_ble_eq_true rfl)
  rw [lg_entry_eq]
  generalize (lg_sl ([.ref n, .ref o]) ++ List.replicate (2 - (lg_sl ([.ref n, .ref o])).length) Slot.unset).toArray = ls at hl ⊢
  have hl : lv_has ls 2 [(0, .ref n), (1, .ref o)] := hl
  refine lv_aload_n hx hb dX2_copyFrom_0 rfl (lv_at hl 0 rfl) ?_
  refine lv_aload_n hx hb dX2_copyFrom_1 rfl (lv_at hl 1 rfl) ?_
  refine va_get (D := D) (ci := 2) (v := .int o_nodes) (C := RX2) (T := TX2) (N := 8) hx hb hts inlX2 hown hK hP 1 rfl rfl 0 (by decide) (hts (Cond.fieldLink RX2 33 "ChanceRings$Net" "nodes" "I") qw_313) (fun _ h9 => h9) rfl dX2_copyFrom_2 ?_
  refine va_put (D := D) (ci := 2) (v := .int o_nodes) (ty := .int) (C := RX2) (T := TX2) (N := 8) hx hb hts inlX2 tyX2 tyX2_ok nmX2 hown hK hP hD hS 0 rfl rfl 0 (by decide) (hts (Cond.fieldLink RX2 33 "ChanceRings$Net" "nodes" "I") qw_313) (fun _ h9 => h9) rfl (by decide +kernel) rfl rfl (Nat.le_of_ble_eq_true rfl) dX2_copyFrom_5 (fun H locs hP hD hS => ?_)
  have hP : va_P D vwCl [(wO2 n o_nodes n_kind n_pay n_name n_ways n_held n_targets n_weights), (wO2 o o_nodes o_kind o_pay o_name o_ways o_held o_targets o_weights), (wI g n_kind 0 12 n_fkind), (wI g n_pay 0 12 n_fpay), (wI g n_name 0 12 n_fname), (wI g n_ways 0 12 n_fways), (wI g n_held 0 12 n_fheld), (wI g n_targets 0 36 n_ftargets), (wI g n_weights 0 36 n_fweights), (wI g o_kind 0 12 o_fkind), (wI g o_pay 0 12 o_fpay), (wI g o_name 0 12 o_fname), (wI g o_ways 0 12 o_fways), (wI g o_held 0 12 o_fheld), (wI g o_targets 0 36 o_ftargets), (wI g o_weights 0 36 o_fweights)] H := hP
  have hD : va_D A [(wO2 n o_nodes n_kind n_pay n_name n_ways n_held n_targets n_weights), (wO2 o o_nodes o_kind o_pay o_name o_ways o_held o_targets o_weights), (wI g n_kind 0 12 n_fkind), (wI g n_pay 0 12 n_fpay), (wI g n_name 0 12 n_fname), (wI g n_ways 0 12 n_fways), (wI g n_held 0 12 n_fheld), (wI g n_targets 0 36 n_ftargets), (wI g n_weights 0 36 n_fweights), (wI g o_kind 0 12 o_fkind), (wI g o_pay 0 12 o_fpay), (wI g o_name 0 12 o_fname), (wI g o_ways 0 12 o_fways), (wI g o_held 0 12 o_fheld), (wI g o_targets 0 36 o_ftargets), (wI g o_weights 0 36 o_fweights)] := hD
  refine lv_aload_n hx hb dX2_copyFrom_8 rfl (lv_at hl 1 rfl) ?_
  refine va_get (D := D) (ci := 2) (v := .ref o_kind) (C := RX2) (T := TX2) (N := 8) hx hb hts inlX2 hown hK hP 1 rfl rfl 1 (by decide) (hts (Cond.fieldLink RX2 9 "ChanceRings$Net" "kind" "[I") qw_316) (fun _ h9 => h9) rfl dX2_copyFrom_9 ?_
  refine lv_iconst (v := 0) hx hb dX2_copyFrom_12 (by decide) ?_
  refine lv_aload_n hx hb dX2_copyFrom_13 rfl (lv_at hl 0 rfl) ?_
  refine va_get (D := D) (ci := 2) (v := .ref n_kind) (C := RX2) (T := TX2) (N := 8) hx hb hts inlX2 hown hK hP 0 rfl rfl 1 (by decide) (hts (Cond.fieldLink RX2 9 "ChanceRings$Net" "kind" "[I") qw_316) (fun _ h9 => h9) rfl dX2_copyFrom_14 ?_
  refine lv_iconst (v := 0) hx hb dX2_copyFrom_17 (by decide) ?_
  refine lv_bipush (v := 12) hx hb dX2_copyFrom_18 (by decide) ?_
  refine va_copyi (ty := .int) hx hb (by rw [hml]; exact hl.1.symm) hown (hts (Cond.methodLink RX2 37 arraycopyName) qw_342) (hts (Cond.native arraycopyName) qw_343) (hts (Cond.static arraycopyName) qw_344) (hts (Cond.initialized "java/lang/System") qw_345) hK hP hD hS 9 2 0 0 rfl rfl rfl rfl rfl (by decide) (by decide) (by decide) (by decide +kernel) (by decide +kernel) (fun _ _ => rfl) (Nat.le_of_ble_eq_true rfl) (Nat.le_of_ble_eq_true rfl) dX2_copyFrom_20 (fun H locs hP hD hS => ?_)
  obtain ⟨f_59937, f_59937_e, h_f_59937, hP, hD⟩ : ∃ FX : Nat → Int32, FX = va_cpy o_fkind n_fkind 0 0 12 ∧ (∀ j : Nat, 0 ≤ (FX j).toInt ∧ (FX j).toInt ≤ 3) ∧ va_P D vwCl [(wO2 n o_nodes n_kind n_pay n_name n_ways n_held n_targets n_weights), (wO2 o o_nodes o_kind o_pay o_name o_ways o_held o_targets o_weights), (wI g n_kind 0 12 FX), (wI g n_pay 0 12 n_fpay), (wI g n_name 0 12 n_fname), (wI g n_ways 0 12 n_fways), (wI g n_held 0 12 n_fheld), (wI g n_targets 0 36 n_ftargets), (wI g n_weights 0 36 n_fweights), (wI g o_kind 0 12 o_fkind), (wI g o_pay 0 12 o_fpay), (wI g o_name 0 12 o_fname), (wI g o_ways 0 12 o_fways), (wI g o_held 0 12 o_fheld), (wI g o_targets 0 36 o_ftargets), (wI g o_weights 0 36 o_fweights)] H ∧ va_D A [(wO2 n o_nodes n_kind n_pay n_name n_ways n_held n_targets n_weights), (wO2 o o_nodes o_kind o_pay o_name o_ways o_held o_targets o_weights), (wI g n_kind 0 12 FX), (wI g n_pay 0 12 n_fpay), (wI g n_name 0 12 n_fname), (wI g n_ways 0 12 n_fways), (wI g n_held 0 12 n_fheld), (wI g n_targets 0 36 n_ftargets), (wI g n_weights 0 36 n_fweights), (wI g o_kind 0 12 o_fkind), (wI g o_pay 0 12 o_fpay), (wI g o_name 0 12 o_fname), (wI g o_ways 0 12 o_fways), (wI g o_held 0 12 o_fheld), (wI g o_targets 0 36 o_ftargets), (wI g o_weights 0 36 o_fweights)] := ⟨_, rfl, tr_cpy (tr_wa h_o_fkind (by decide) (by decide)) h_n_fkind, hP, hD⟩
  have hP : va_P D vwCl [(wO2 n o_nodes n_kind n_pay n_name n_ways n_held n_targets n_weights), (wO2 o o_nodes o_kind o_pay o_name o_ways o_held o_targets o_weights), (wI g n_kind 0 12 f_59937), (wI g n_pay 0 12 n_fpay), (wI g n_name 0 12 n_fname), (wI g n_ways 0 12 n_fways), (wI g n_held 0 12 n_fheld), (wI g n_targets 0 36 n_ftargets), (wI g n_weights 0 36 n_fweights), (wI g o_kind 0 12 o_fkind), (wI g o_pay 0 12 o_fpay), (wI g o_name 0 12 o_fname), (wI g o_ways 0 12 o_fways), (wI g o_held 0 12 o_fheld), (wI g o_targets 0 36 o_ftargets), (wI g o_weights 0 36 o_fweights)] H := hP
  have hD : va_D A [(wO2 n o_nodes n_kind n_pay n_name n_ways n_held n_targets n_weights), (wO2 o o_nodes o_kind o_pay o_name o_ways o_held o_targets o_weights), (wI g n_kind 0 12 f_59937), (wI g n_pay 0 12 n_fpay), (wI g n_name 0 12 n_fname), (wI g n_ways 0 12 n_fways), (wI g n_held 0 12 n_fheld), (wI g n_targets 0 36 n_ftargets), (wI g n_weights 0 36 n_fweights), (wI g o_kind 0 12 o_fkind), (wI g o_pay 0 12 o_fpay), (wI g o_name 0 12 o_fname), (wI g o_ways 0 12 o_fways), (wI g o_held 0 12 o_fheld), (wI g o_targets 0 36 o_ftargets), (wI g o_weights 0 36 o_fweights)] := hD
  refine lv_aload_n hx hb dX2_copyFrom_23 rfl (lv_at hl 1 rfl) ?_
  refine va_get (D := D) (ci := 2) (v := .ref o_pay) (C := RX2) (T := TX2) (N := 8) hx hb hts inlX2 hown hK hP 1 rfl rfl 2 (by decide) (hts (Cond.fieldLink RX2 15 "ChanceRings$Net" "pay" "[I") qw_317) (fun _ h9 => h9) rfl dX2_copyFrom_24 ?_
  refine lv_iconst (v := 0) hx hb dX2_copyFrom_27 (by decide) ?_
  refine lv_aload_n hx hb dX2_copyFrom_28 rfl (lv_at hl 0 rfl) ?_
  refine va_get (D := D) (ci := 2) (v := .ref n_pay) (C := RX2) (T := TX2) (N := 8) hx hb hts inlX2 hown hK hP 0 rfl rfl 2 (by decide) (hts (Cond.fieldLink RX2 15 "ChanceRings$Net" "pay" "[I") qw_317) (fun _ h9 => h9) rfl dX2_copyFrom_29 ?_
  refine lv_iconst (v := 0) hx hb dX2_copyFrom_32 (by decide) ?_
  refine lv_bipush (v := 12) hx hb dX2_copyFrom_33 (by decide) ?_
  refine va_copyi (ty := .int) hx hb (by rw [hml]; exact hl.1.symm) hown (hts (Cond.methodLink RX2 37 arraycopyName) qw_342) (hts (Cond.native arraycopyName) qw_343) (hts (Cond.static arraycopyName) qw_344) (hts (Cond.initialized "java/lang/System") qw_345) hK hP hD hS 10 3 0 0 rfl rfl rfl rfl rfl (by decide) (by decide) (by decide) (by decide +kernel) (by decide +kernel) (fun _ _ => rfl) (Nat.le_of_ble_eq_true rfl) (Nat.le_of_ble_eq_true rfl) dX2_copyFrom_35 (fun H locs hP hD hS => ?_)
  obtain ⟨f_59938, f_59938_e, hP, hD⟩ : ∃ FX : Nat → Int32, FX = va_cpy o_fpay n_fpay 0 0 12 ∧ va_P D vwCl [(wO2 n o_nodes n_kind n_pay n_name n_ways n_held n_targets n_weights), (wO2 o o_nodes o_kind o_pay o_name o_ways o_held o_targets o_weights), (wI g n_kind 0 12 f_59937), (wI g n_pay 0 12 FX), (wI g n_name 0 12 n_fname), (wI g n_ways 0 12 n_fways), (wI g n_held 0 12 n_fheld), (wI g n_targets 0 36 n_ftargets), (wI g n_weights 0 36 n_fweights), (wI g o_kind 0 12 o_fkind), (wI g o_pay 0 12 o_fpay), (wI g o_name 0 12 o_fname), (wI g o_ways 0 12 o_fways), (wI g o_held 0 12 o_fheld), (wI g o_targets 0 36 o_ftargets), (wI g o_weights 0 36 o_fweights)] H ∧ va_D A [(wO2 n o_nodes n_kind n_pay n_name n_ways n_held n_targets n_weights), (wO2 o o_nodes o_kind o_pay o_name o_ways o_held o_targets o_weights), (wI g n_kind 0 12 f_59937), (wI g n_pay 0 12 FX), (wI g n_name 0 12 n_fname), (wI g n_ways 0 12 n_fways), (wI g n_held 0 12 n_fheld), (wI g n_targets 0 36 n_ftargets), (wI g n_weights 0 36 n_fweights), (wI g o_kind 0 12 o_fkind), (wI g o_pay 0 12 o_fpay), (wI g o_name 0 12 o_fname), (wI g o_ways 0 12 o_fways), (wI g o_held 0 12 o_fheld), (wI g o_targets 0 36 o_ftargets), (wI g o_weights 0 36 o_fweights)] := ⟨_, rfl, hP, hD⟩
  have hP : va_P D vwCl [(wO2 n o_nodes n_kind n_pay n_name n_ways n_held n_targets n_weights), (wO2 o o_nodes o_kind o_pay o_name o_ways o_held o_targets o_weights), (wI g n_kind 0 12 f_59937), (wI g n_pay 0 12 f_59938), (wI g n_name 0 12 n_fname), (wI g n_ways 0 12 n_fways), (wI g n_held 0 12 n_fheld), (wI g n_targets 0 36 n_ftargets), (wI g n_weights 0 36 n_fweights), (wI g o_kind 0 12 o_fkind), (wI g o_pay 0 12 o_fpay), (wI g o_name 0 12 o_fname), (wI g o_ways 0 12 o_fways), (wI g o_held 0 12 o_fheld), (wI g o_targets 0 36 o_ftargets), (wI g o_weights 0 36 o_fweights)] H := hP
  have hD : va_D A [(wO2 n o_nodes n_kind n_pay n_name n_ways n_held n_targets n_weights), (wO2 o o_nodes o_kind o_pay o_name o_ways o_held o_targets o_weights), (wI g n_kind 0 12 f_59937), (wI g n_pay 0 12 f_59938), (wI g n_name 0 12 n_fname), (wI g n_ways 0 12 n_fways), (wI g n_held 0 12 n_fheld), (wI g n_targets 0 36 n_ftargets), (wI g n_weights 0 36 n_fweights), (wI g o_kind 0 12 o_fkind), (wI g o_pay 0 12 o_fpay), (wI g o_name 0 12 o_fname), (wI g o_ways 0 12 o_fways), (wI g o_held 0 12 o_fheld), (wI g o_targets 0 36 o_ftargets), (wI g o_weights 0 36 o_fweights)] := hD
  refine lv_aload_n hx hb dX2_copyFrom_38 rfl (lv_at hl 1 rfl) ?_
  refine va_get (D := D) (ci := 2) (v := .ref o_name) (C := RX2) (T := TX2) (N := 8) hx hb hts inlX2 hown hK hP 1 rfl rfl 3 (by decide) (hts (Cond.fieldLink RX2 18 "ChanceRings$Net" "name" "[I") qw_333) (fun _ h9 => h9) rfl dX2_copyFrom_39 ?_
  refine lv_iconst (v := 0) hx hb dX2_copyFrom_42 (by decide) ?_
  refine lv_aload_n hx hb dX2_copyFrom_43 rfl (lv_at hl 0 rfl) ?_
  refine va_get (D := D) (ci := 2) (v := .ref n_name) (C := RX2) (T := TX2) (N := 8) hx hb hts inlX2 hown hK hP 0 rfl rfl 3 (by decide) (hts (Cond.fieldLink RX2 18 "ChanceRings$Net" "name" "[I") qw_333) (fun _ h9 => h9) rfl dX2_copyFrom_44 ?_
  refine lv_iconst (v := 0) hx hb dX2_copyFrom_47 (by decide) ?_
  refine lv_bipush (v := 12) hx hb dX2_copyFrom_48 (by decide) ?_
  refine va_copyi (ty := .int) hx hb (by rw [hml]; exact hl.1.symm) hown (hts (Cond.methodLink RX2 37 arraycopyName) qw_342) (hts (Cond.native arraycopyName) qw_343) (hts (Cond.static arraycopyName) qw_344) (hts (Cond.initialized "java/lang/System") qw_345) hK hP hD hS 11 4 0 0 rfl rfl rfl rfl rfl (by decide) (by decide) (by decide) (by decide +kernel) (by decide +kernel) (fun _ _ => rfl) (Nat.le_of_ble_eq_true rfl) (Nat.le_of_ble_eq_true rfl) dX2_copyFrom_50 (fun H locs hP hD hS => ?_)
  obtain ⟨f_59939, f_59939_e, hP, hD⟩ : ∃ FX : Nat → Int32, FX = va_cpy o_fname n_fname 0 0 12 ∧ va_P D vwCl [(wO2 n o_nodes n_kind n_pay n_name n_ways n_held n_targets n_weights), (wO2 o o_nodes o_kind o_pay o_name o_ways o_held o_targets o_weights), (wI g n_kind 0 12 f_59937), (wI g n_pay 0 12 f_59938), (wI g n_name 0 12 FX), (wI g n_ways 0 12 n_fways), (wI g n_held 0 12 n_fheld), (wI g n_targets 0 36 n_ftargets), (wI g n_weights 0 36 n_fweights), (wI g o_kind 0 12 o_fkind), (wI g o_pay 0 12 o_fpay), (wI g o_name 0 12 o_fname), (wI g o_ways 0 12 o_fways), (wI g o_held 0 12 o_fheld), (wI g o_targets 0 36 o_ftargets), (wI g o_weights 0 36 o_fweights)] H ∧ va_D A [(wO2 n o_nodes n_kind n_pay n_name n_ways n_held n_targets n_weights), (wO2 o o_nodes o_kind o_pay o_name o_ways o_held o_targets o_weights), (wI g n_kind 0 12 f_59937), (wI g n_pay 0 12 f_59938), (wI g n_name 0 12 FX), (wI g n_ways 0 12 n_fways), (wI g n_held 0 12 n_fheld), (wI g n_targets 0 36 n_ftargets), (wI g n_weights 0 36 n_fweights), (wI g o_kind 0 12 o_fkind), (wI g o_pay 0 12 o_fpay), (wI g o_name 0 12 o_fname), (wI g o_ways 0 12 o_fways), (wI g o_held 0 12 o_fheld), (wI g o_targets 0 36 o_ftargets), (wI g o_weights 0 36 o_fweights)] := ⟨_, rfl, hP, hD⟩
  have hP : va_P D vwCl [(wO2 n o_nodes n_kind n_pay n_name n_ways n_held n_targets n_weights), (wO2 o o_nodes o_kind o_pay o_name o_ways o_held o_targets o_weights), (wI g n_kind 0 12 f_59937), (wI g n_pay 0 12 f_59938), (wI g n_name 0 12 f_59939), (wI g n_ways 0 12 n_fways), (wI g n_held 0 12 n_fheld), (wI g n_targets 0 36 n_ftargets), (wI g n_weights 0 36 n_fweights), (wI g o_kind 0 12 o_fkind), (wI g o_pay 0 12 o_fpay), (wI g o_name 0 12 o_fname), (wI g o_ways 0 12 o_fways), (wI g o_held 0 12 o_fheld), (wI g o_targets 0 36 o_ftargets), (wI g o_weights 0 36 o_fweights)] H := hP
  have hD : va_D A [(wO2 n o_nodes n_kind n_pay n_name n_ways n_held n_targets n_weights), (wO2 o o_nodes o_kind o_pay o_name o_ways o_held o_targets o_weights), (wI g n_kind 0 12 f_59937), (wI g n_pay 0 12 f_59938), (wI g n_name 0 12 f_59939), (wI g n_ways 0 12 n_fways), (wI g n_held 0 12 n_fheld), (wI g n_targets 0 36 n_ftargets), (wI g n_weights 0 36 n_fweights), (wI g o_kind 0 12 o_fkind), (wI g o_pay 0 12 o_fpay), (wI g o_name 0 12 o_fname), (wI g o_ways 0 12 o_fways), (wI g o_held 0 12 o_fheld), (wI g o_targets 0 36 o_ftargets), (wI g o_weights 0 36 o_fweights)] := hD
  refine lv_aload_n hx hb dX2_copyFrom_53 rfl (lv_at hl 1 rfl) ?_
  refine va_get (D := D) (ci := 2) (v := .ref o_ways) (C := RX2) (T := TX2) (N := 8) hx hb hts inlX2 hown hK hP 1 rfl rfl 4 (by decide) (hts (Cond.fieldLink RX2 21 "ChanceRings$Net" "ways" "[I") qw_318) (fun _ h9 => h9) rfl dX2_copyFrom_54 ?_
  refine lv_iconst (v := 0) hx hb dX2_copyFrom_57 (by decide) ?_
  refine lv_aload_n hx hb dX2_copyFrom_58 rfl (lv_at hl 0 rfl) ?_
  refine va_get (D := D) (ci := 2) (v := .ref n_ways) (C := RX2) (T := TX2) (N := 8) hx hb hts inlX2 hown hK hP 0 rfl rfl 4 (by decide) (hts (Cond.fieldLink RX2 21 "ChanceRings$Net" "ways" "[I") qw_318) (fun _ h9 => h9) rfl dX2_copyFrom_59 ?_
  refine lv_iconst (v := 0) hx hb dX2_copyFrom_62 (by decide) ?_
  refine lv_bipush (v := 12) hx hb dX2_copyFrom_63 (by decide) ?_
  refine va_copyi (ty := .int) hx hb (by rw [hml]; exact hl.1.symm) hown (hts (Cond.methodLink RX2 37 arraycopyName) qw_342) (hts (Cond.native arraycopyName) qw_343) (hts (Cond.static arraycopyName) qw_344) (hts (Cond.initialized "java/lang/System") qw_345) hK hP hD hS 12 5 0 0 rfl rfl rfl rfl rfl (by decide) (by decide) (by decide) (by decide +kernel) (by decide +kernel) (fun _ _ => rfl) (Nat.le_of_ble_eq_true rfl) (Nat.le_of_ble_eq_true rfl) dX2_copyFrom_65 (fun H locs hP hD hS => ?_)
  obtain ⟨f_59940, f_59940_e, h_f_59940, hP, hD⟩ : ∃ FX : Nat → Int32, FX = va_cpy o_fways n_fways 0 0 12 ∧ (∀ j : Nat, 0 ≤ (FX j).toInt ∧ (FX j).toInt ≤ 3) ∧ va_P D vwCl [(wO2 n o_nodes n_kind n_pay n_name n_ways n_held n_targets n_weights), (wO2 o o_nodes o_kind o_pay o_name o_ways o_held o_targets o_weights), (wI g n_kind 0 12 f_59937), (wI g n_pay 0 12 f_59938), (wI g n_name 0 12 f_59939), (wI g n_ways 0 12 FX), (wI g n_held 0 12 n_fheld), (wI g n_targets 0 36 n_ftargets), (wI g n_weights 0 36 n_fweights), (wI g o_kind 0 12 o_fkind), (wI g o_pay 0 12 o_fpay), (wI g o_name 0 12 o_fname), (wI g o_ways 0 12 o_fways), (wI g o_held 0 12 o_fheld), (wI g o_targets 0 36 o_ftargets), (wI g o_weights 0 36 o_fweights)] H ∧ va_D A [(wO2 n o_nodes n_kind n_pay n_name n_ways n_held n_targets n_weights), (wO2 o o_nodes o_kind o_pay o_name o_ways o_held o_targets o_weights), (wI g n_kind 0 12 f_59937), (wI g n_pay 0 12 f_59938), (wI g n_name 0 12 f_59939), (wI g n_ways 0 12 FX), (wI g n_held 0 12 n_fheld), (wI g n_targets 0 36 n_ftargets), (wI g n_weights 0 36 n_fweights), (wI g o_kind 0 12 o_fkind), (wI g o_pay 0 12 o_fpay), (wI g o_name 0 12 o_fname), (wI g o_ways 0 12 o_fways), (wI g o_held 0 12 o_fheld), (wI g o_targets 0 36 o_ftargets), (wI g o_weights 0 36 o_fweights)] := ⟨_, rfl, tr_cpy (tr_wa h_o_fways (by decide) (by decide)) h_n_fways, hP, hD⟩
  have hP : va_P D vwCl [(wO2 n o_nodes n_kind n_pay n_name n_ways n_held n_targets n_weights), (wO2 o o_nodes o_kind o_pay o_name o_ways o_held o_targets o_weights), (wI g n_kind 0 12 f_59937), (wI g n_pay 0 12 f_59938), (wI g n_name 0 12 f_59939), (wI g n_ways 0 12 f_59940), (wI g n_held 0 12 n_fheld), (wI g n_targets 0 36 n_ftargets), (wI g n_weights 0 36 n_fweights), (wI g o_kind 0 12 o_fkind), (wI g o_pay 0 12 o_fpay), (wI g o_name 0 12 o_fname), (wI g o_ways 0 12 o_fways), (wI g o_held 0 12 o_fheld), (wI g o_targets 0 36 o_ftargets), (wI g o_weights 0 36 o_fweights)] H := hP
  have hD : va_D A [(wO2 n o_nodes n_kind n_pay n_name n_ways n_held n_targets n_weights), (wO2 o o_nodes o_kind o_pay o_name o_ways o_held o_targets o_weights), (wI g n_kind 0 12 f_59937), (wI g n_pay 0 12 f_59938), (wI g n_name 0 12 f_59939), (wI g n_ways 0 12 f_59940), (wI g n_held 0 12 n_fheld), (wI g n_targets 0 36 n_ftargets), (wI g n_weights 0 36 n_fweights), (wI g o_kind 0 12 o_fkind), (wI g o_pay 0 12 o_fpay), (wI g o_name 0 12 o_fname), (wI g o_ways 0 12 o_fways), (wI g o_held 0 12 o_fheld), (wI g o_targets 0 36 o_ftargets), (wI g o_weights 0 36 o_fweights)] := hD
  refine lv_aload_n hx hb dX2_copyFrom_68 rfl (lv_at hl 1 rfl) ?_
  refine va_get (D := D) (ci := 2) (v := .ref o_held) (C := RX2) (T := TX2) (N := 8) hx hb hts inlX2 hown hK hP 1 rfl rfl 5 (by decide) (hts (Cond.fieldLink RX2 24 "ChanceRings$Net" "held" "[I") qw_314) (fun _ h9 => h9) rfl dX2_copyFrom_69 ?_
  refine lv_iconst (v := 0) hx hb dX2_copyFrom_72 (by decide) ?_
  refine lv_aload_n hx hb dX2_copyFrom_73 rfl (lv_at hl 0 rfl) ?_
  refine va_get (D := D) (ci := 2) (v := .ref n_held) (C := RX2) (T := TX2) (N := 8) hx hb hts inlX2 hown hK hP 0 rfl rfl 5 (by decide) (hts (Cond.fieldLink RX2 24 "ChanceRings$Net" "held" "[I") qw_314) (fun _ h9 => h9) rfl dX2_copyFrom_74 ?_
  refine lv_iconst (v := 0) hx hb dX2_copyFrom_77 (by decide) ?_
  refine lv_bipush (v := 12) hx hb dX2_copyFrom_78 (by decide) ?_
  refine va_copyi (ty := .int) hx hb (by rw [hml]; exact hl.1.symm) hown (hts (Cond.methodLink RX2 37 arraycopyName) qw_342) (hts (Cond.native arraycopyName) qw_343) (hts (Cond.static arraycopyName) qw_344) (hts (Cond.initialized "java/lang/System") qw_345) hK hP hD hS 13 6 0 0 rfl rfl rfl rfl rfl (by decide) (by decide) (by decide) (by decide +kernel) (by decide +kernel) (fun _ _ => rfl) (Nat.le_of_ble_eq_true rfl) (Nat.le_of_ble_eq_true rfl) dX2_copyFrom_80 (fun H locs hP hD hS => ?_)
  obtain ⟨f_59941, f_59941_e, h_f_59941, hP, hD⟩ : ∃ FX : Nat → Int32, FX = va_cpy o_fheld n_fheld 0 0 12 ∧ (∀ j : Nat, (-1) ≤ (FX j).toInt ∧ (FX j).toInt ≤ 2) ∧ va_P D vwCl [(wO2 n o_nodes n_kind n_pay n_name n_ways n_held n_targets n_weights), (wO2 o o_nodes o_kind o_pay o_name o_ways o_held o_targets o_weights), (wI g n_kind 0 12 f_59937), (wI g n_pay 0 12 f_59938), (wI g n_name 0 12 f_59939), (wI g n_ways 0 12 f_59940), (wI g n_held 0 12 FX), (wI g n_targets 0 36 n_ftargets), (wI g n_weights 0 36 n_fweights), (wI g o_kind 0 12 o_fkind), (wI g o_pay 0 12 o_fpay), (wI g o_name 0 12 o_fname), (wI g o_ways 0 12 o_fways), (wI g o_held 0 12 o_fheld), (wI g o_targets 0 36 o_ftargets), (wI g o_weights 0 36 o_fweights)] H ∧ va_D A [(wO2 n o_nodes n_kind n_pay n_name n_ways n_held n_targets n_weights), (wO2 o o_nodes o_kind o_pay o_name o_ways o_held o_targets o_weights), (wI g n_kind 0 12 f_59937), (wI g n_pay 0 12 f_59938), (wI g n_name 0 12 f_59939), (wI g n_ways 0 12 f_59940), (wI g n_held 0 12 FX), (wI g n_targets 0 36 n_ftargets), (wI g n_weights 0 36 n_fweights), (wI g o_kind 0 12 o_fkind), (wI g o_pay 0 12 o_fpay), (wI g o_name 0 12 o_fname), (wI g o_ways 0 12 o_fways), (wI g o_held 0 12 o_fheld), (wI g o_targets 0 36 o_ftargets), (wI g o_weights 0 36 o_fweights)] := ⟨_, rfl, tr_cpy (tr_wa h_o_fheld (by decide) (by decide)) h_n_fheld, hP, hD⟩
  have hP : va_P D vwCl [(wO2 n o_nodes n_kind n_pay n_name n_ways n_held n_targets n_weights), (wO2 o o_nodes o_kind o_pay o_name o_ways o_held o_targets o_weights), (wI g n_kind 0 12 f_59937), (wI g n_pay 0 12 f_59938), (wI g n_name 0 12 f_59939), (wI g n_ways 0 12 f_59940), (wI g n_held 0 12 f_59941), (wI g n_targets 0 36 n_ftargets), (wI g n_weights 0 36 n_fweights), (wI g o_kind 0 12 o_fkind), (wI g o_pay 0 12 o_fpay), (wI g o_name 0 12 o_fname), (wI g o_ways 0 12 o_fways), (wI g o_held 0 12 o_fheld), (wI g o_targets 0 36 o_ftargets), (wI g o_weights 0 36 o_fweights)] H := hP
  have hD : va_D A [(wO2 n o_nodes n_kind n_pay n_name n_ways n_held n_targets n_weights), (wO2 o o_nodes o_kind o_pay o_name o_ways o_held o_targets o_weights), (wI g n_kind 0 12 f_59937), (wI g n_pay 0 12 f_59938), (wI g n_name 0 12 f_59939), (wI g n_ways 0 12 f_59940), (wI g n_held 0 12 f_59941), (wI g n_targets 0 36 n_ftargets), (wI g n_weights 0 36 n_fweights), (wI g o_kind 0 12 o_fkind), (wI g o_pay 0 12 o_fpay), (wI g o_name 0 12 o_fname), (wI g o_ways 0 12 o_fways), (wI g o_held 0 12 o_fheld), (wI g o_targets 0 36 o_ftargets), (wI g o_weights 0 36 o_fweights)] := hD
  refine lv_aload_n hx hb dX2_copyFrom_83 rfl (lv_at hl 1 rfl) ?_
  refine va_get (D := D) (ci := 2) (v := .ref o_targets) (C := RX2) (T := TX2) (N := 8) hx hb hts inlX2 hown hK hP 1 rfl rfl 6 (by decide) (hts (Cond.fieldLink RX2 27 "ChanceRings$Net" "targets" "[I") qw_315) (fun _ h9 => h9) rfl dX2_copyFrom_84 ?_
  refine lv_iconst (v := 0) hx hb dX2_copyFrom_87 (by decide) ?_
  refine lv_aload_n hx hb dX2_copyFrom_88 rfl (lv_at hl 0 rfl) ?_
  refine va_get (D := D) (ci := 2) (v := .ref n_targets) (C := RX2) (T := TX2) (N := 8) hx hb hts inlX2 hown hK hP 0 rfl rfl 6 (by decide) (hts (Cond.fieldLink RX2 27 "ChanceRings$Net" "targets" "[I") qw_315) (fun _ h9 => h9) rfl dX2_copyFrom_89 ?_
  refine lv_iconst (v := 0) hx hb dX2_copyFrom_92 (by decide) ?_
  refine lv_bipush (v := 36) hx hb dX2_copyFrom_93 (by decide) ?_
  refine va_copyi (ty := .int) hx hb (by rw [hml]; exact hl.1.symm) hown (hts (Cond.methodLink RX2 37 arraycopyName) qw_342) (hts (Cond.native arraycopyName) qw_343) (hts (Cond.static arraycopyName) qw_344) (hts (Cond.initialized "java/lang/System") qw_345) hK hP hD hS 14 7 0 0 rfl rfl rfl rfl rfl (by decide) (by decide) (by decide) (by decide +kernel) (by decide +kernel) (fun _ _ => rfl) (Nat.le_of_ble_eq_true rfl) (Nat.le_of_ble_eq_true rfl) dX2_copyFrom_95 (fun H locs hP hD hS => ?_)
  obtain ⟨f_59942, f_59942_e, h_f_59942, hP, hD⟩ : ∃ FX : Nat → Int32, FX = va_cpy o_ftargets n_ftargets 0 0 36 ∧ (∀ j : Nat, 0 ≤ (FX j).toInt ∧ (FX j).toInt ≤ 11) ∧ va_P D vwCl [(wO2 n o_nodes n_kind n_pay n_name n_ways n_held n_targets n_weights), (wO2 o o_nodes o_kind o_pay o_name o_ways o_held o_targets o_weights), (wI g n_kind 0 12 f_59937), (wI g n_pay 0 12 f_59938), (wI g n_name 0 12 f_59939), (wI g n_ways 0 12 f_59940), (wI g n_held 0 12 f_59941), (wI g n_targets 0 36 FX), (wI g n_weights 0 36 n_fweights), (wI g o_kind 0 12 o_fkind), (wI g o_pay 0 12 o_fpay), (wI g o_name 0 12 o_fname), (wI g o_ways 0 12 o_fways), (wI g o_held 0 12 o_fheld), (wI g o_targets 0 36 o_ftargets), (wI g o_weights 0 36 o_fweights)] H ∧ va_D A [(wO2 n o_nodes n_kind n_pay n_name n_ways n_held n_targets n_weights), (wO2 o o_nodes o_kind o_pay o_name o_ways o_held o_targets o_weights), (wI g n_kind 0 12 f_59937), (wI g n_pay 0 12 f_59938), (wI g n_name 0 12 f_59939), (wI g n_ways 0 12 f_59940), (wI g n_held 0 12 f_59941), (wI g n_targets 0 36 FX), (wI g n_weights 0 36 n_fweights), (wI g o_kind 0 12 o_fkind), (wI g o_pay 0 12 o_fpay), (wI g o_name 0 12 o_fname), (wI g o_ways 0 12 o_fways), (wI g o_held 0 12 o_fheld), (wI g o_targets 0 36 o_ftargets), (wI g o_weights 0 36 o_fweights)] := ⟨_, rfl, tr_cpy (tr_wa h_o_ftargets (by decide) (by decide)) h_n_ftargets, hP, hD⟩
  have hP : va_P D vwCl [(wO2 n o_nodes n_kind n_pay n_name n_ways n_held n_targets n_weights), (wO2 o o_nodes o_kind o_pay o_name o_ways o_held o_targets o_weights), (wI g n_kind 0 12 f_59937), (wI g n_pay 0 12 f_59938), (wI g n_name 0 12 f_59939), (wI g n_ways 0 12 f_59940), (wI g n_held 0 12 f_59941), (wI g n_targets 0 36 f_59942), (wI g n_weights 0 36 n_fweights), (wI g o_kind 0 12 o_fkind), (wI g o_pay 0 12 o_fpay), (wI g o_name 0 12 o_fname), (wI g o_ways 0 12 o_fways), (wI g o_held 0 12 o_fheld), (wI g o_targets 0 36 o_ftargets), (wI g o_weights 0 36 o_fweights)] H := hP
  have hD : va_D A [(wO2 n o_nodes n_kind n_pay n_name n_ways n_held n_targets n_weights), (wO2 o o_nodes o_kind o_pay o_name o_ways o_held o_targets o_weights), (wI g n_kind 0 12 f_59937), (wI g n_pay 0 12 f_59938), (wI g n_name 0 12 f_59939), (wI g n_ways 0 12 f_59940), (wI g n_held 0 12 f_59941), (wI g n_targets 0 36 f_59942), (wI g n_weights 0 36 n_fweights), (wI g o_kind 0 12 o_fkind), (wI g o_pay 0 12 o_fpay), (wI g o_name 0 12 o_fname), (wI g o_ways 0 12 o_fways), (wI g o_held 0 12 o_fheld), (wI g o_targets 0 36 o_ftargets), (wI g o_weights 0 36 o_fweights)] := hD
  refine lv_aload_n hx hb dX2_copyFrom_98 rfl (lv_at hl 1 rfl) ?_
  refine va_get (D := D) (ci := 2) (v := .ref o_weights) (C := RX2) (T := TX2) (N := 8) hx hb hts inlX2 hown hK hP 1 rfl rfl 7 (by decide) (hts (Cond.fieldLink RX2 30 "ChanceRings$Net" "weights" "[I") qw_332) (fun _ h9 => h9) rfl dX2_copyFrom_99 ?_
  refine lv_iconst (v := 0) hx hb dX2_copyFrom_102 (by decide) ?_
  refine lv_aload_n hx hb dX2_copyFrom_103 rfl (lv_at hl 0 rfl) ?_
  refine va_get (D := D) (ci := 2) (v := .ref n_weights) (C := RX2) (T := TX2) (N := 8) hx hb hts inlX2 hown hK hP 0 rfl rfl 7 (by decide) (hts (Cond.fieldLink RX2 30 "ChanceRings$Net" "weights" "[I") qw_332) (fun _ h9 => h9) rfl dX2_copyFrom_104 ?_
  refine lv_iconst (v := 0) hx hb dX2_copyFrom_107 (by decide) ?_
  refine lv_bipush (v := 36) hx hb dX2_copyFrom_108 (by decide) ?_
  refine va_copyi (ty := .int) hx hb (by rw [hml]; exact hl.1.symm) hown (hts (Cond.methodLink RX2 37 arraycopyName) qw_342) (hts (Cond.native arraycopyName) qw_343) (hts (Cond.static arraycopyName) qw_344) (hts (Cond.initialized "java/lang/System") qw_345) hK hP hD hS 15 8 0 0 rfl rfl rfl rfl rfl (by decide) (by decide) (by decide) (by decide +kernel) (by decide +kernel) (fun _ _ => rfl) (Nat.le_of_ble_eq_true rfl) (Nat.le_of_ble_eq_true rfl) dX2_copyFrom_110 (fun H locs hP hD hS => ?_)
  obtain ⟨f_59943, f_59943_e, hP, hD⟩ : ∃ FX : Nat → Int32, FX = va_cpy o_fweights n_fweights 0 0 36 ∧ va_P D vwCl [(wO2 n o_nodes n_kind n_pay n_name n_ways n_held n_targets n_weights), (wO2 o o_nodes o_kind o_pay o_name o_ways o_held o_targets o_weights), (wI g n_kind 0 12 f_59937), (wI g n_pay 0 12 f_59938), (wI g n_name 0 12 f_59939), (wI g n_ways 0 12 f_59940), (wI g n_held 0 12 f_59941), (wI g n_targets 0 36 f_59942), (wI g n_weights 0 36 FX), (wI g o_kind 0 12 o_fkind), (wI g o_pay 0 12 o_fpay), (wI g o_name 0 12 o_fname), (wI g o_ways 0 12 o_fways), (wI g o_held 0 12 o_fheld), (wI g o_targets 0 36 o_ftargets), (wI g o_weights 0 36 o_fweights)] H ∧ va_D A [(wO2 n o_nodes n_kind n_pay n_name n_ways n_held n_targets n_weights), (wO2 o o_nodes o_kind o_pay o_name o_ways o_held o_targets o_weights), (wI g n_kind 0 12 f_59937), (wI g n_pay 0 12 f_59938), (wI g n_name 0 12 f_59939), (wI g n_ways 0 12 f_59940), (wI g n_held 0 12 f_59941), (wI g n_targets 0 36 f_59942), (wI g n_weights 0 36 FX), (wI g o_kind 0 12 o_fkind), (wI g o_pay 0 12 o_fpay), (wI g o_name 0 12 o_fname), (wI g o_ways 0 12 o_fways), (wI g o_held 0 12 o_fheld), (wI g o_targets 0 36 o_ftargets), (wI g o_weights 0 36 o_fweights)] := ⟨_, rfl, hP, hD⟩
  have hP : va_P D vwCl [(wO2 n o_nodes n_kind n_pay n_name n_ways n_held n_targets n_weights), (wO2 o o_nodes o_kind o_pay o_name o_ways o_held o_targets o_weights), (wI g n_kind 0 12 f_59937), (wI g n_pay 0 12 f_59938), (wI g n_name 0 12 f_59939), (wI g n_ways 0 12 f_59940), (wI g n_held 0 12 f_59941), (wI g n_targets 0 36 f_59942), (wI g n_weights 0 36 f_59943), (wI g o_kind 0 12 o_fkind), (wI g o_pay 0 12 o_fpay), (wI g o_name 0 12 o_fname), (wI g o_ways 0 12 o_fways), (wI g o_held 0 12 o_fheld), (wI g o_targets 0 36 o_ftargets), (wI g o_weights 0 36 o_fweights)] H := hP
  have hD : va_D A [(wO2 n o_nodes n_kind n_pay n_name n_ways n_held n_targets n_weights), (wO2 o o_nodes o_kind o_pay o_name o_ways o_held o_targets o_weights), (wI g n_kind 0 12 f_59937), (wI g n_pay 0 12 f_59938), (wI g n_name 0 12 f_59939), (wI g n_ways 0 12 f_59940), (wI g n_held 0 12 f_59941), (wI g n_targets 0 36 f_59942), (wI g n_weights 0 36 f_59943), (wI g o_kind 0 12 o_fkind), (wI g o_pay 0 12 o_fpay), (wI g o_name 0 12 o_fname), (wI g o_ways 0 12 o_fways), (wI g o_held 0 12 o_fheld), (wI g o_targets 0 36 o_ftargets), (wI g o_weights 0 36 o_fweights)] := hD
  have hP9 := hP.sub (ws' := [(wO2 n o_nodes n_kind n_pay n_name n_ways n_held n_targets n_weights), (wO2 o o_nodes o_kind o_pay o_name o_ways o_held o_targets o_weights), (wI g n_kind 0 12 f_59937), (wI g n_pay 0 12 f_59938), (wI g n_name 0 12 f_59939), (wI g n_ways 0 12 f_59940), (wI g n_held 0 12 f_59941), (wI g n_targets 0 36 f_59942), (wI g n_weights 0 36 f_59943), (wI g o_kind 0 12 o_fkind), (wI g o_pay 0 12 o_fpay), (wI g o_name 0 12 o_fname), (wI g o_ways 0 12 o_fways), (wI g o_held 0 12 o_fheld), (wI g o_targets 0 36 o_ftargets), (wI g o_weights 0 36 o_fweights)]) [0, 1, 2, 3, 4, 5, 6, 7, 8, 9, 10, 11, 12, 13, 14, 15] rfl
  have hD9 := hD.sub (ws' := [(wO2 n o_nodes n_kind n_pay n_name n_ways n_held n_targets n_weights), (wO2 o o_nodes o_kind o_pay o_name o_ways o_held o_targets o_weights), (wI g n_kind 0 12 f_59937), (wI g n_pay 0 12 f_59938), (wI g n_name 0 12 f_59939), (wI g n_ways 0 12 f_59940), (wI g n_held 0 12 f_59941), (wI g n_targets 0 36 f_59942), (wI g n_weights 0 36 f_59943), (wI g o_kind 0 12 o_fkind), (wI g o_pay 0 12 o_fpay), (wI g o_name 0 12 o_fname), (wI g o_ways 0 12 o_fways), (wI g o_held 0 12 o_fheld), (wI g o_targets 0 36 o_ftargets), (wI g o_weights 0 36 o_fweights)]) [0, 1, 2, 3, 4, 5, 6, 7, 8, 9, 10, 11, 12, 13, 14, 15] (by decide) rfl
  exact W.vret hx hb hr (fun t ht hW => ⟨⟨(), rfl, trivial, f_59937, f_59938, f_59939, f_59940, f_59941, f_59942, f_59943, (tr_wa h_f_59937 (by decide) (by decide)), (tr_wa h_f_59940 (by decide) (by decide)), (tr_wa h_f_59941 (by decide) (by decide)), (tr_wa h_f_59942 (by decide) (by decide)), (absC_cpy f_59937_e f_59938_e f_59939_e f_59940_e f_59941_e f_59942_e f_59943_e), by rw [ht]; exact hP9, hD9⟩, hS.F ht⟩) hS.2.2 dX2_copyFrom_113
