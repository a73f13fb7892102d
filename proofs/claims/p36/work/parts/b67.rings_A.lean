set_option maxHeartbeats 4000000 in
set_option maxRecDepth 100000 in
theorem c_X12_rank (l : Launch) (D : va_G) (g : Nat → ClassId) (sz : Nat) (mm : Nat) (p0 : Int32) (i_thrown : Int32) (m_s : Nat) (m_spare : Nat) (m_kept : Nat) (m_undone : Nat) (m_triedWay : Nat) (m_isKept : Nat) (i_undoMany : Int32) (m_tape : Nat) (i_length : Int32) (i_size : Int32) (i_p : Int32) (i_at : Int32) (i_token : Int32) (i_number : Int32) (i_letterMany : Int32) (i_fault : Int32) (i_faultAt : Int32) (m_letters : Nat) (i_isKnown : Int32) (m_choice : Nat) (m_row : Nat) (m_up : Nat) (m_low : Nat) (m_m : Nat) (m_bestUp : Nat) (m_bestLow : Nat) (m_replyUp : Nat) (m_replyLow : Nat) (m_worthUp : Nat) (m_worthLow : Nat) (m_bestWay : Nat) (i_seed : Int32) (m_told : Nat) (i_toldMany : Int32) (sf : Nat → Int32) (chf : Nat → Int32) (wf : Nat → Int32) (uf : Nat → Int64) (lof : Nat → Int64) (rr : Nat → Nat) (ct : Nat → Nat → Int64) (ru : Nat → Int64) (rl : Nat → Int64) (bu : Nat → Int64) (bl : Nat → Int64) (wu : Nat → Int64) (wl : Nat → Int64) (bwf : Nat → Int32) (h_i_undoMany : 0 ≤ (i_undoMany : Int32).toInt ∧ (i_undoMany : Int32).toInt ≤ 8) (h_i_length : 0 ≤ (i_length : Int32).toInt ∧ (i_length : Int32).toInt ≤ 440) (h_i_size : 0 ≤ (i_size : Int32).toInt ∧ (i_size : Int32).toInt ≤ 440) (h_i_p : 0 ≤ (i_p : Int32).toInt ∧ (i_p : Int32).toInt ≤ 440) (h_i_at : 0 ≤ (i_at : Int32).toInt ∧ (i_at : Int32).toInt ≤ 440) (h_i_token : 0 ≤ (i_token : Int32).toInt ∧ (i_token : Int32).toInt ≤ 4) (h_i_number : 0 ≤ (i_number : Int32).toInt ∧ (i_number : Int32).toInt ≤ 814) (h_i_letterMany : (-440) ≤ (i_letterMany : Int32).toInt ∧ (i_letterMany : Int32).toInt ≤ 440) (h_i_faultAt : 0 ≤ (i_faultAt : Int32).toInt ∧ (i_faultAt : Int32).toInt ≤ 440) (h_i_isKnown : 0 ≤ (i_isKnown : Int32).toInt ∧ (i_isKnown : Int32).toInt ≤ 1) (h_i_toldMany : 0 ≤ (i_toldMany : Int32).toInt ∧ (i_toldMany : Int32).toInt ≤ 900) (h_chf : ∀ j : Nat, 0 ≤ (chf j).toInt ∧ (chf j).toInt ≤ 2) (h_wf : ∀ j : Nat, (-1) ≤ (wf j).toInt ∧ (wf j).toInt ≤ 11) (h_bwf : ∀ j : Nat, 0 ≤ (bwf j).toInt ∧ (bwf j).toInt ≤ 2) (hG : GS sf) : Met l yX12_rank (.code yX12_rank cX12_rank 5 (some .int) :: wsL_law) ({ frames := 7, cells := 0, slots := 0, locals := 173 }) (va_Pc [.ref mm, .int p0] (fun U => U.heap.size = sz ∧ va_P D vwCl [(wO12 mm i_thrown m_s m_spare m_kept m_undone m_triedWay m_isKept i_undoMany m_tape i_length i_size i_p i_at i_token i_number i_letterMany i_fault i_faultAt m_letters i_isKnown m_choice m_row m_up m_low m_m m_bestUp m_bestLow m_replyUp m_replyLow m_worthUp m_worthLow m_bestWay i_seed m_told i_toldMany), (wI g m_s 0 193 sf), (wI g m_choice 0 12 chf), (wI g m_row 0 12 wf), (wJ g m_up 1 12 uf), (wJ g m_low 1 12 lof), (wR g m_m 5 12 (fun i => if i < 12 then some (rr i) else none)), (wJ g (rr 0) 1 13 (ct 0)), (wJ g (rr 1) 1 13 (ct 1)), (wJ g (rr 2) 1 13 (ct 2)), (wJ g (rr 3) 1 13 (ct 3)), (wJ g (rr 4) 1 13 (ct 4)), (wJ g (rr 5) 1 13 (ct 5)), (wJ g (rr 6) 1 13 (ct 6)), (wJ g (rr 7) 1 13 (ct 7)), (wJ g (rr 8) 1 13 (ct 8)), (wJ g (rr 9) 1 13 (ct 9)), (wJ g (rr 10) 1 13 (ct 10)), (wJ g (rr 11) 1 13 (ct 11)), (wJ g m_replyUp 1 12 ru), (wJ g m_replyLow 1 12 rl), (wJ g m_bestUp 1 12 bu), (wJ g m_bestLow 1 12 bl), (wJ g m_worthUp 1 12 wu), (wJ g m_worthLow 1 12 wl), (wI g m_bestWay 0 12 bwf)] U.heap ∧ va_K D vwCl (TY g) U ∧ va_D (fun _ => True) [(wO12 mm i_thrown m_s m_spare m_kept m_undone m_triedWay m_isKept i_undoMany m_tape i_length i_size i_p i_at i_token i_number i_letterMany i_fault i_faultAt m_letters i_isKnown m_choice m_row m_up m_low m_m m_bestUp m_bestLow m_replyUp m_replyLow m_worthUp m_worthLow m_bestWay i_seed m_told i_toldMany), (wI g m_s 0 193 sf), (wI g m_choice 0 12 chf), (wI g m_row 0 12 wf), (wJ g m_up 1 12 uf), (wJ g m_low 1 12 lof), (wR g m_m 5 12 (fun i => if i < 12 then some (rr i) else none)), (wJ g (rr 0) 1 13 (ct 0)), (wJ g (rr 1) 1 13 (ct 1)), (wJ g (rr 2) 1 13 (ct 2)), (wJ g (rr 3) 1 13 (ct 3)), (wJ g (rr 4) 1 13 (ct 4)), (wJ g (rr 5) 1 13 (ct 5)), (wJ g (rr 6) 1 13 (ct 6)), (wJ g (rr 7) 1 13 (ct 7)), (wJ g (rr 8) 1 13 (ct 8)), (wJ g (rr 9) 1 13 (ct 9)), (wJ g (rr 10) 1 13 (ct 10)), (wJ g (rr 11) 1 13 (ct 11)), (wJ g m_replyUp 1 12 ru), (wJ g m_replyLow 1 12 rl), (wJ g m_bestUp 1 12 bu), (wJ g m_bestLow 1 12 bl), (wJ g m_worthUp 1 12 wu), (wJ g m_worthLow 1 12 wl), (wI g m_bestWay 0 12 bwf)])) (va_Qi (fun r (_ : Unit) => True) (fun _ t => ∃ o_thrown : Int32, ∃ o_isKnown : Int32, ∃ ochf : Nat → Int32, ∃ owf : Nat → Int32, ∃ ouf : Nat → Int64, ∃ olof : Nat → Int64, ∃ oru : Nat → Int64, ∃ orl : Nat → Int64, ∃ obu : Nat → Int64, ∃ obl : Nat → Int64, ∃ owu : Nat → Int64, ∃ owl : Nat → Int64, ∃ obw : Nat → Int32, ∃ oct : Nat → Nat → Int64, (0 ≤ (o_isKnown : Int32).toInt ∧ (o_isKnown : Int32).toInt ≤ 1) ∧ (∀ j : Nat, 0 ≤ (ochf j).toInt ∧ (ochf j).toInt ≤ 2) ∧ (∀ j : Nat, (-1) ≤ (owf j).toInt ∧ (owf j).toInt ≤ 11) ∧ (∀ j : Nat, 0 ≤ (obw j).toInt ∧ (obw j).toInt ≤ 2) ∧ va_P D vwCl [(wO12 mm o_thrown m_s m_spare m_kept m_undone m_triedWay m_isKept i_undoMany m_tape i_length i_size i_p i_at i_token i_number i_letterMany i_fault i_faultAt m_letters o_isKnown m_choice m_row m_up m_low m_m m_bestUp m_bestLow m_replyUp m_replyLow m_worthUp m_worthLow m_bestWay i_seed m_told i_toldMany), (wI g m_s 0 193 sf), (wI g m_choice 0 12 ochf), (wI g m_row 0 12 owf), (wJ g m_up 1 12 ouf), (wJ g m_low 1 12 olof), (wR g m_m 5 12 (fun i => if i < 12 then some (rr i) else none)), (wJ g (rr 0) 1 13 (oct 0)), (wJ g (rr 1) 1 13 (oct 1)), (wJ g (rr 2) 1 13 (oct 2)), (wJ g (rr 3) 1 13 (oct 3)), (wJ g (rr 4) 1 13 (oct 4)), (wJ g (rr 5) 1 13 (oct 5)), (wJ g (rr 6) 1 13 (oct 6)), (wJ g (rr 7) 1 13 (oct 7)), (wJ g (rr 8) 1 13 (oct 8)), (wJ g (rr 9) 1 13 (oct 9)), (wJ g (rr 10) 1 13 (oct 10)), (wJ g (rr 11) 1 13 (oct 11)), (wJ g m_replyUp 1 12 oru), (wJ g m_replyLow 1 12 orl), (wJ g m_bestUp 1 12 obu), (wJ g m_bestLow 1 12 obl), (wJ g m_worthUp 1 12 owu), (wJ g m_worthLow 1 12 owl), (wI g m_bestWay 0 12 obw)] t.heap ∧ va_D (va_A [(wO12 mm i_thrown m_s m_spare m_kept m_undone m_triedWay m_isKept i_undoMany m_tape i_length i_size i_p i_at i_token i_number i_letterMany i_fault i_faultAt m_letters i_isKnown m_choice m_row m_up m_low m_m m_bestUp m_bestLow m_replyUp m_replyLow m_worthUp m_worthLow m_bestWay i_seed m_told i_toldMany), (wI g m_s 0 193 sf), (wI g m_choice 0 12 chf), (wI g m_row 0 12 wf), (wJ g m_up 1 12 uf), (wJ g m_low 1 12 lof), (wR g m_m 5 12 (fun i => if i < 12 then some (rr i) else none)), (wJ g (rr 0) 1 13 (ct 0)), (wJ g (rr 1) 1 13 (ct 1)), (wJ g (rr 2) 1 13 (ct 2)), (wJ g (rr 3) 1 13 (ct 3)), (wJ g (rr 4) 1 13 (ct 4)), (wJ g (rr 5) 1 13 (ct 5)), (wJ g (rr 6) 1 13 (ct 6)), (wJ g (rr 7) 1 13 (ct 7)), (wJ g (rr 8) 1 13 (ct 8)), (wJ g (rr 9) 1 13 (ct 9)), (wJ g (rr 10) 1 13 (ct 10)), (wJ g (rr 11) 1 13 (ct 11)), (wJ g m_replyUp 1 12 ru), (wJ g m_replyLow 1 12 rl), (wJ g m_bestUp 1 12 bu), (wJ g m_bestLow 1 12 bl), (wJ g m_worthUp 1 12 wu), (wJ g m_worthLow 1 12 wl), (wI g m_bestWay 0 12 bwf)] sz) [(wO12 mm o_thrown m_s m_spare m_kept m_undone m_triedWay m_isKept i_undoMany m_tape i_length i_size i_p i_at i_token i_number i_letterMany i_fault i_faultAt m_letters o_isKnown m_choice m_row m_up m_low m_m m_bestUp m_bestLow m_replyUp m_replyLow m_worthUp m_worthLow m_bestWay i_seed m_told i_toldMany), (wI g m_s 0 193 sf), (wI g m_choice 0 12 ochf), (wI g m_row 0 12 owf), (wJ g m_up 1 12 ouf), (wJ g m_low 1 12 olof), (wR g m_m 5 12 (fun i => if i < 12 then some (rr i) else none)), (wJ g (rr 0) 1 13 (oct 0)), (wJ g (rr 1) 1 13 (oct 1)), (wJ g (rr 2) 1 13 (oct 2)), (wJ g (rr 3) 1 13 (oct 3)), (wJ g (rr 4) 1 13 (oct 4)), (wJ g (rr 5) 1 13 (oct 5)), (wJ g (rr 6) 1 13 (oct 6)), (wJ g (rr 7) 1 13 (oct 7)), (wJ g (rr 8) 1 13 (oct 8)), (wJ g (rr 9) 1 13 (oct 9)), (wJ g (rr 10) 1 13 (oct 10)), (wJ g (rr 11) 1 13 (oct 11)), (wJ g m_replyUp 1 12 oru), (wJ g m_replyLow 1 12 orl), (wJ g m_bestUp 1 12 obu), (wJ g m_bestLow 1 12 obl), (wJ g m_worthUp 1 12 owu), (wJ g m_worthLow 1 12 owl), (wI g m_bestWay 0 12 obw)]) (va_A [(wO12 mm i_thrown m_s m_spare m_kept m_undone m_triedWay m_isKept i_undoMany m_tape i_length i_size i_p i_at i_token i_number i_letterMany i_fault i_faultAt m_letters i_isKnown m_choice m_row m_up m_low m_m m_bestUp m_bestLow m_replyUp m_replyLow m_worthUp m_worthLow m_bestWay i_seed m_told i_toldMany), (wI g m_s 0 193 sf), (wI g m_choice 0 12 chf), (wI g m_row 0 12 wf), (wJ g m_up 1 12 uf), (wJ g m_low 1 12 lof), (wR g m_m 5 12 (fun i => if i < 12 then some (rr i) else none)), (wJ g (rr 0) 1 13 (ct 0)), (wJ g (rr 1) 1 13 (ct 1)), (wJ g (rr 2) 1 13 (ct 2)), (wJ g (rr 3) 1 13 (ct 3)), (wJ g (rr 4) 1 13 (ct 4)), (wJ g (rr 5) 1 13 (ct 5)), (wJ g (rr 6) 1 13 (ct 6)), (wJ g (rr 7) 1 13 (ct 7)), (wJ g (rr 8) 1 13 (ct 8)), (wJ g (rr 9) 1 13 (ct 9)), (wJ g (rr 10) 1 13 (ct 10)), (wJ g (rr 11) 1 13 (ct 11)), (wJ g m_replyUp 1 12 ru), (wJ g m_replyLow 1 12 rl), (wJ g m_bestUp 1 12 bu), (wJ g m_bestLow 1 12 bl), (wJ g m_worthUp 1 12 wu), (wJ g m_worthLow 1 12 wl), (wI g m_bestWay 0 12 bwf)] sz)) 0 0 (va_A [(wO12 mm i_thrown m_s m_spare m_kept m_undone m_triedWay m_isKept i_undoMany m_tape i_length i_size i_p i_at i_token i_number i_letterMany i_fault i_faultAt m_letters i_isKnown m_choice m_row m_up m_low m_m m_bestUp m_bestLow m_replyUp m_replyLow m_worthUp m_worthLow m_bestWay i_seed m_told i_toldMany), (wI g m_s 0 193 sf), (wI g m_choice 0 12 chf), (wI g m_row 0 12 wf), (wJ g m_up 1 12 uf), (wJ g m_low 1 12 lof), (wR g m_m 5 12 (fun i => if i < 12 then some (rr i) else none)), (wJ g (rr 0) 1 13 (ct 0)), (wJ g (rr 1) 1 13 (ct 1)), (wJ g (rr 2) 1 13 (ct 2)), (wJ g (rr 3) 1 13 (ct 3)), (wJ g (rr 4) 1 13 (ct 4)), (wJ g (rr 5) 1 13 (ct 5)), (wJ g (rr 6) 1 13 (ct 6)), (wJ g (rr 7) 1 13 (ct 7)), (wJ g (rr 8) 1 13 (ct 8)), (wJ g (rr 9) 1 13 (ct 9)), (wJ g (rr 10) 1 13 (ct 10)), (wJ g (rr 11) 1 13 (ct 11)), (wJ g m_replyUp 1 12 ru), (wJ g m_replyLow 1 12 rl), (wJ g m_bestUp 1 12 bu), (wJ g m_bestLow 1 12 bl), (wJ g m_worthUp 1 12 wu), (wJ g m_worthLow 1 12 wl), (wI g m_bestWay 0 12 bwf)] sz) := by
  refine Met.ofW (cc := cX12_rank) (maxL := 5) (ret := (some .int)) (by decide) rfl ?_
  intro p e s m args below meth c s₁ B hml hv
  obtain ⟨ha, hsz, hP, hK, hD0⟩ := hv
  have hx := B.exec
  have hb := B.bytes
  have hr := B.returns
  have hts0 := atoms_spec (ws := (.code yX12_rank cX12_rank 5 (some .int) :: wsL_law)) B.pre
  have hts : ∀ w ∈ wsL_law, w.before args s = true := fun w h => hts0 w (List.mem_cons_of_mem _ h)
  have hown : s.vm.findClass RX12 = some m.cls := findClass_of_methodNamed B.named
  have hlocks := B.notSynchronized
  subst hsz
  have hD := hD0.self (sz := s.heap.size)
  generalize hAe : va_A [(wO12 mm i_thrown m_s m_spare m_kept m_undone m_triedWay m_isKept i_undoMany m_tape i_length i_size i_p i_at i_token i_number i_letterMany i_fault i_faultAt m_letters i_isKnown m_choice m_row m_up m_low m_m m_bestUp m_bestLow m_replyUp m_replyLow m_worthUp m_worthLow m_bestWay i_seed m_told i_toldMany), (wI g m_s 0 193 sf), (wI g m_choice 0 12 chf), (wI g m_row 0 12 wf), (wJ g m_up 1 12 uf), (wJ g m_low 1 12 lof), (wR g m_m 5 12 (fun i => if i < 12 then some (rr i) else none)), (wJ g (rr 0) 1 13 (ct 0)), (wJ g (rr 1) 1 13 (ct 1)), (wJ g (rr 2) 1 13 (ct 2)), (wJ g (rr 3) 1 13 (ct 3)), (wJ g (rr 4) 1 13 (ct 4)), (wJ g (rr 5) 1 13 (ct 5)), (wJ g (rr 6) 1 13 (ct 6)), (wJ g (rr 7) 1 13 (ct 7)), (wJ g (rr 8) 1 13 (ct 8)), (wJ g (rr 9) 1 13 (ct 9)), (wJ g (rr 10) 1 13 (ct 10)), (wJ g (rr 11) 1 13 (ct 11)), (wJ g m_replyUp 1 12 ru), (wJ g m_replyLow 1 12 rl), (wJ g m_bestUp 1 12 bu), (wJ g m_bestLow 1 12 bl), (wJ g m_worthUp 1 12 wu), (wJ g m_worthLow 1 12 wl), (wI g m_bestWay 0 12 bwf)] s.heap.size = A at hD ⊢
  have hA : ∀ q : Nat, s.heap.size ≤ q → A q := fun q h => by rw [← hAe]; exact Or.inr h
  have hS : va_S A s.heap s.heap [] := va_S.rf
  have hP : va_P D vwCl [(wO12 mm i_thrown m_s m_spare m_kept m_undone m_triedWay m_isKept i_undoMany m_tape i_length i_size i_p i_at i_token i_number i_letterMany i_fault i_faultAt m_letters i_isKnown m_choice m_row m_up m_low m_m m_bestUp m_bestLow m_replyUp m_replyLow m_worthUp m_worthLow m_bestWay i_seed m_told i_toldMany), (wI g m_s 0 193 sf), (wI g m_choice 0 12 chf), (wI g m_row 0 12 wf), (wJ g m_up 1 12 uf), (wJ g m_low 1 12 lof), (wR g m_m 5 12 (fun i => if i < 12 then some (rr i) else none)), (wJ g (rr 0) 1 13 (ct 0)), (wJ g (rr 1) 1 13 (ct 1)), (wJ g (rr 2) 1 13 (ct 2)), (wJ g (rr 3) 1 13 (ct 3)), (wJ g (rr 4) 1 13 (ct 4)), (wJ g (rr 5) 1 13 (ct 5)), (wJ g (rr 6) 1 13 (ct 6)), (wJ g (rr 7) 1 13 (ct 7)), (wJ g (rr 8) 1 13 (ct 8)), (wJ g (rr 9) 1 13 (ct 9)), (wJ g (rr 10) 1 13 (ct 10)), (wJ g (rr 11) 1 13 (ct 11)), (wJ g m_replyUp 1 12 ru), (wJ g m_replyLow 1 12 rl), (wJ g m_bestUp 1 12 bu), (wJ g m_bestLow 1 12 bl), (wJ g m_worthUp 1 12 wu), (wJ g m_worthLow 1 12 wl), (wI g m_bestWay 0 12 bwf)] s.heap := hP
  refine W.eq (g2 := entryFrame m ([.ref mm, .int p0] : List Value).toArray 5) (by rw [ha]) ?_
  have hl := lv_entry ([.ref mm, .int p0]) (n := 5) (Nat.le_of_ble_eq_true rfl)
  rw [lg_entry_eq]
  generalize (lg_sl ([.ref mm, .int p0]) ++ List.replicate (5 - (lg_sl ([.ref mm, .int p0])).length) Slot.unset).toArray = ls at hl ⊢
  have hl : lv_has ls 5 [(0, .ref mm), (1, .int p0)] := hl
  have gn9 := hG.r.1
  refine lv_aload_n hx hb dX12_rank_0 rfl (lv_at hl 0 rfl) ?_
  refine lv_iconst (v := 0) hx hb dX12_rank_1 (by decide) ?_
  refine va_put (D := D) (ci := 12) (v := .int 0) (ty := .int) (C := RX12) (T := TX12) (N := 35) hx hb hts inlX12 tyX12 tyX12_ok nmX12 hown hK hP hD hS 0 rfl rfl 0 (by decide) (hts (Cond.fieldLink RX12 1 "ChanceRingsModel" "thrown" "I") qw_0) (fun _ h9 => h9) rfl (by decide +kernel) rfl rfl (Nat.le_of_ble_eq_true rfl) dX12_rank_2 (fun H locs hP hD hS => ?_)
  have hP : va_P D vwCl [(wO12 mm 0 m_s m_spare m_kept m_undone m_triedWay m_isKept i_undoMany m_tape i_length i_size i_p i_at i_token i_number i_letterMany i_fault i_faultAt m_letters i_isKnown m_choice m_row m_up m_low m_m m_bestUp m_bestLow m_replyUp m_replyLow m_worthUp m_worthLow m_bestWay i_seed m_told i_toldMany), (wI g m_s 0 193 sf), (wI g m_choice 0 12 chf), (wI g m_row 0 12 wf), (wJ g m_up 1 12 uf), (wJ g m_low 1 12 lof), (wR g m_m 5 12 (fun i => if i < 12 then some (rr i) else none)), (wJ g (rr 0) 1 13 (ct 0)), (wJ g (rr 1) 1 13 (ct 1)), (wJ g (rr 2) 1 13 (ct 2)), (wJ g (rr 3) 1 13 (ct 3)), (wJ g (rr 4) 1 13 (ct 4)), (wJ g (rr 5) 1 13 (ct 5)), (wJ g (rr 6) 1 13 (ct 6)), (wJ g (rr 7) 1 13 (ct 7)), (wJ g (rr 8) 1 13 (ct 8)), (wJ g (rr 9) 1 13 (ct 9)), (wJ g (rr 10) 1 13 (ct 10)), (wJ g (rr 11) 1 13 (ct 11)), (wJ g m_replyUp 1 12 ru), (wJ g m_replyLow 1 12 rl), (wJ g m_bestUp 1 12 bu), (wJ g m_bestLow 1 12 bl), (wJ g m_worthUp 1 12 wu), (wJ g m_worthLow 1 12 wl), (wI g m_bestWay 0 12 bwf)] H := hP
  have hD : va_D A [(wO12 mm 0 m_s m_spare m_kept m_undone m_triedWay m_isKept i_undoMany m_tape i_length i_size i_p i_at i_token i_number i_letterMany i_fault i_faultAt m_letters i_isKnown m_choice m_row m_up m_low m_m m_bestUp m_bestLow m_replyUp m_replyLow m_worthUp m_worthLow m_bestWay i_seed m_told i_toldMany), (wI g m_s 0 193 sf), (wI g m_choice 0 12 chf), (wI g m_row 0 12 wf), (wJ g m_up 1 12 uf), (wJ g m_low 1 12 lof), (wR g m_m 5 12 (fun i => if i < 12 then some (rr i) else none)), (wJ g (rr 0) 1 13 (ct 0)), (wJ g (rr 1) 1 13 (ct 1)), (wJ g (rr 2) 1 13 (ct 2)), (wJ g (rr 3) 1 13 (ct 3)), (wJ g (rr 4) 1 13 (ct 4)), (wJ g (rr 5) 1 13 (ct 5)), (wJ g (rr 6) 1 13 (ct 6)), (wJ g (rr 7) 1 13 (ct 7)), (wJ g (rr 8) 1 13 (ct 8)), (wJ g (rr 9) 1 13 (ct 9)), (wJ g (rr 10) 1 13 (ct 10)), (wJ g (rr 11) 1 13 (ct 11)), (wJ g m_replyUp 1 12 ru), (wJ g m_replyLow 1 12 rl), (wJ g m_bestUp 1 12 bu), (wJ g m_bestLow 1 12 bl), (wJ g m_worthUp 1 12 wu), (wJ g m_worthLow 1 12 wl), (wI g m_bestWay 0 12 bwf)] := hD
  refine lv_aload_n hx hb dX12_rank_5 rfl (lv_at hl 0 rfl) ?_
  have hPc := hP.sub (ws' := [(wO12 mm 0 m_s m_spare m_kept m_undone m_triedWay m_isKept i_undoMany m_tape i_length i_size i_p i_at i_token i_number i_letterMany i_fault i_faultAt m_letters i_isKnown m_choice m_row m_up m_low m_m m_bestUp m_bestLow m_replyUp m_replyLow m_worthUp m_worthLow m_bestWay i_seed m_told i_toldMany), (wI g m_s 0 193 sf), (wI g m_choice 0 12 chf), (wI g m_row 0 12 wf), (wJ g m_up 1 12 uf), (wJ g m_low 1 12 lof), (wR g m_m 5 12 (fun i => if i < 12 then some (rr i) else none)), (wJ g (rr 0) 1 13 (ct 0)), (wJ g (rr 1) 1 13 (ct 1)), (wJ g (rr 2) 1 13 (ct 2)), (wJ g (rr 3) 1 13 (ct 3)), (wJ g (rr 4) 1 13 (ct 4)), (wJ g (rr 5) 1 13 (ct 5)), (wJ g (rr 6) 1 13 (ct 6)), (wJ g (rr 7) 1 13 (ct 7)), (wJ g (rr 8) 1 13 (ct 8)), (wJ g (rr 9) 1 13 (ct 9)), (wJ g (rr 10) 1 13 (ct 10)), (wJ g (rr 11) 1 13 (ct 11)), (wJ g m_replyUp 1 12 ru), (wJ g m_replyLow 1 12 rl), (wJ g m_bestUp 1 12 bu), (wJ g m_bestLow 1 12 bl), (wJ g m_worthUp 1 12 wu), (wJ g m_worthLow 1 12 wl), (wI g m_bestWay 0 12 bwf)]) [0, 1, 2, 3, 4, 5, 6, 7, 8, 9, 10, 11, 12, 13, 14, 15, 16, 17, 18, 19, 20, 21, 22, 23, 24, 25] rfl
  have hDc := hD.sub (ws' := [(wO12 mm 0 m_s m_spare m_kept m_undone m_triedWay m_isKept i_undoMany m_tape i_length i_size i_p i_at i_token i_number i_letterMany i_fault i_faultAt m_letters i_isKnown m_choice m_row m_up m_low m_m m_bestUp m_bestLow m_replyUp m_replyLow m_worthUp m_worthLow m_bestWay i_seed m_told i_toldMany), (wI g m_s 0 193 sf), (wI g m_choice 0 12 chf), (wI g m_row 0 12 wf), (wJ g m_up 1 12 uf), (wJ g m_low 1 12 lof), (wR g m_m 5 12 (fun i => if i < 12 then some (rr i) else none)), (wJ g (rr 0) 1 13 (ct 0)), (wJ g (rr 1) 1 13 (ct 1)), (wJ g (rr 2) 1 13 (ct 2)), (wJ g (rr 3) 1 13 (ct 3)), (wJ g (rr 4) 1 13 (ct 4)), (wJ g (rr 5) 1 13 (ct 5)), (wJ g (rr 6) 1 13 (ct 6)), (wJ g (rr 7) 1 13 (ct 7)), (wJ g (rr 8) 1 13 (ct 8)), (wJ g (rr 9) 1 13 (ct 9)), (wJ g (rr 10) 1 13 (ct 10)), (wJ g (rr 11) 1 13 (ct 11)), (wJ g m_replyUp 1 12 ru), (wJ g m_replyLow 1 12 rl), (wJ g m_bestUp 1 12 bu), (wJ g m_bestLow 1 12 bl), (wJ g m_worthUp 1 12 wu), (wJ g m_worthLow 1 12 wl), (wI g m_bestWay 0 12 bwf)]) [0, 1, 2, 3, 4, 5, 6, 7, 8, 9, 10, 11, 12, 13, 14, 15, 16, 17, 18, 19, 20, 21, 22, 23, 24, 25] (by decide) rfl
  have hFc := va_free (wc := [(wO12 mm 0 m_s m_spare m_kept m_undone m_triedWay m_isKept i_undoMany m_tape i_length i_size i_p i_at i_token i_number i_letterMany i_fault i_faultAt m_letters i_isKnown m_choice m_row m_up m_low m_m m_bestUp m_bestLow m_replyUp m_replyLow m_worthUp m_worthLow m_bestWay i_seed m_told i_toldMany), (wI g m_s 0 193 sf), (wI g m_choice 0 12 chf), (wI g m_row 0 12 wf), (wJ g m_up 1 12 uf), (wJ g m_low 1 12 lof), (wR g m_m 5 12 (fun i => if i < 12 then some (rr i) else none)), (wJ g (rr 0) 1 13 (ct 0)), (wJ g (rr 1) 1 13 (ct 1)), (wJ g (rr 2) 1 13 (ct 2)), (wJ g (rr 3) 1 13 (ct 3)), (wJ g (rr 4) 1 13 (ct 4)), (wJ g (rr 5) 1 13 (ct 5)), (wJ g (rr 6) 1 13 (ct 6)), (wJ g (rr 7) 1 13 (ct 7)), (wJ g (rr 8) 1 13 (ct 8)), (wJ g (rr 9) 1 13 (ct 9)), (wJ g (rr 10) 1 13 (ct 10)), (wJ g (rr 11) 1 13 (ct 11)), (wJ g m_replyUp 1 12 ru), (wJ g m_replyLow 1 12 rl), (wJ g m_bestUp 1 12 bu), (wJ g m_bestLow 1 12 bl), (wJ g m_worthUp 1 12 wu), (wJ g m_worthLow 1 12 wl), (wI g m_bestWay 0 12 bwf)]) hD hS hA [0, 1, 2, 3, 4, 5, 6, 7, 8, 9, 10, 11, 12, 13, 14, 15, 16, 17, 18, 19, 20, 21, 22, 23, 24, 25] rfl
  refine va_callv (va_runV (As := []) (rest := []) ⟨hx, hb, hml, hown, hts⟩ (c_X12_knows l D g H.size mm 0 m_s m_spare m_kept m_undone m_triedWay m_isKept i_undoMany m_tape i_length i_size i_p i_at i_token i_number i_letterMany i_fault i_faultAt m_letters i_isKnown m_choice m_row m_up m_low m_m m_bestUp m_bestLow m_replyUp m_replyLow m_worthUp m_worthLow m_bestWay i_seed m_told i_toldMany sf chf wf uf lof rr ct ru rl bu bl wu wl bwf (tr_w h_i_undoMany (by decide) (by decide)) (tr_w h_i_length (by decide) (by decide)) (tr_w h_i_size (by decide) (by decide)) (tr_w h_i_p (by decide) (by decide)) (tr_w h_i_at (by decide) (by decide)) (tr_w h_i_token (by decide) (by decide)) (tr_w h_i_number (by decide) (by decide)) (tr_w h_i_letterMany (by decide) (by decide)) (tr_w h_i_faultAt (by decide) (by decide)) (tr_w h_i_isKnown (by decide) (by decide)) (tr_w h_i_toldMany (by decide) (by decide)) (tr_wa h_chf (by decide) (by decide)) (tr_wa h_wf (by decide) (by decide)) (tr_wa h_bwf (by decide) (by decide)) hG) (cwV 0 hts (tz_gV qw_213 qw_214 qw_215 qw_3 qw_216) rfl rfl rfl (by decide +kernel) ⟨Nat.le_of_ble_eq_true rfl, Nat.le_of_ble_eq_true rfl⟩) ⟨tz_blQ, va_recv hK hPc (ci := 12) (q0 := 0) rfl rfl, tz_preQ hPc hK hDc⟩ rfl rfl hl.1 rfl (lv_room (Nat.le_of_ble_eq_true rfl)) dX12_rank_6 ⟨Nat.le_of_ble_eq_true rfl, Nat.le_of_ble_eq_true rfl⟩) hS (fun q _ h => hFc q h) hFc (fun u t H1 locs ht hvm hw hB hz1 hk1 hS => ?_)
  refine Exists.elim hB fun o_isKnown_46438 hB_1 => Exists.elim hB_1 fun ochf_46439 hB_2 => Exists.elim hB_2 fun owf_46440 hB_3 => Exists.elim hB_3 fun ouf_46441 hB_4 => Exists.elim hB_4 fun olof_46442 hB_5 => Exists.elim hB_5 fun oru_46443 hB_6 => Exists.elim hB_6 fun orl_46444 hB_7 => Exists.elim hB_7 fun obu_46445 hB_8 => Exists.elim hB_8 fun obl_46446 hB_9 => Exists.elim hB_9 fun owu_46447 hB_10 => Exists.elim hB_10 fun owl_46448 hB_11 => Exists.elim hB_11 fun obw_46449 hB_12 => Exists.elim hB_12 fun oct_46450 hB_13 => ?_
  obtain ⟨hf_46451, hf_46452, hf_46453, hf_46454, hP1, hD1⟩ := hB_13
  clear hB hB_1 hB_2 hB_3 hB_4 hB_5 hB_6 hB_7 hB_8 hB_9 hB_10 hB_11 hB_12
  rw [ht] at hP1
  obtain ⟨hP, hD⟩ := va_join (wr := []) (w1 := [(wO12 mm 0 m_s m_spare m_kept m_undone m_triedWay m_isKept i_undoMany m_tape i_length i_size i_p i_at i_token i_number i_letterMany i_fault i_faultAt m_letters o_isKnown_46438 m_choice m_row m_up m_low m_m m_bestUp m_bestLow m_replyUp m_replyLow m_worthUp m_worthLow m_bestWay i_seed m_told i_toldMany), (wI g m_s 0 193 sf), (wI g m_choice 0 12 ochf_46439), (wI g m_row 0 12 owf_46440), (wJ g m_up 1 12 ouf_46441), (wJ g m_low 1 12 olof_46442), (wR g m_m 5 12 (fun i => if i < 12 then some (rr i) else none)), (wJ g (rr 0) 1 13 (oct_46450 0)), (wJ g (rr 1) 1 13 (oct_46450 1)), (wJ g (rr 2) 1 13 (oct_46450 2)), (wJ g (rr 3) 1 13 (oct_46450 3)), (wJ g (rr 4) 1 13 (oct_46450 4)), (wJ g (rr 5) 1 13 (oct_46450 5)), (wJ g (rr 6) 1 13 (oct_46450 6)), (wJ g (rr 7) 1 13 (oct_46450 7)), (wJ g (rr 8) 1 13 (oct_46450 8)), (wJ g (rr 9) 1 13 (oct_46450 9)), (wJ g (rr 10) 1 13 (oct_46450 10)), (wJ g (rr 11) 1 13 (oct_46450 11)), (wJ g m_replyUp 1 12 oru_46443), (wJ g m_replyLow 1 12 orl_46444), (wJ g m_bestUp 1 12 obu_46445), (wJ g m_bestLow 1 12 obl_46446), (wJ g m_worthUp 1 12 owu_46447), (wJ g m_worthLow 1 12 owl_46448), (wI g m_bestWay 0 12 obw_46449)]) hP hD [0, 1, 2, 3, 4, 5, 6, 7, 8, 9, 10, 11, 12, 13, 14, 15, 16, 17, 18, 19, 20, 21, 22, 23, 24, 25] [] rfl rfl (by decide) (by decide) hk1 hFc hP1 hD1
  generalize H1 = H at hP hS ⊢
  have hP : va_P D vwCl [(wO12 mm 0 m_s m_spare m_kept m_undone m_triedWay m_isKept i_undoMany m_tape i_length i_size i_p i_at i_token i_number i_letterMany i_fault i_faultAt m_letters o_isKnown_46438 m_choice m_row m_up m_low m_m m_bestUp m_bestLow m_replyUp m_replyLow m_worthUp m_worthLow m_bestWay i_seed m_told i_toldMany), (wI g m_s 0 193 sf), (wI g m_choice 0 12 ochf_46439), (wI g m_row 0 12 owf_46440), (wJ g m_up 1 12 ouf_46441), (wJ g m_low 1 12 olof_46442), (wR g m_m 5 12 (fun i => if i < 12 then some (rr i) else none)), (wJ g (rr 0) 1 13 (oct_46450 0)), (wJ g (rr 1) 1 13 (oct_46450 1)), (wJ g (rr 2) 1 13 (oct_46450 2)), (wJ g (rr 3) 1 13 (oct_46450 3)), (wJ g (rr 4) 1 13 (oct_46450 4)), (wJ g (rr 5) 1 13 (oct_46450 5)), (wJ g (rr 6) 1 13 (oct_46450 6)), (wJ g (rr 7) 1 13 (oct_46450 7)), (wJ g (rr 8) 1 13 (oct_46450 8)), (wJ g (rr 9) 1 13 (oct_46450 9)), (wJ g (rr 10) 1 13 (oct_46450 10)), (wJ g (rr 11) 1 13 (oct_46450 11)), (wJ g m_replyUp 1 12 oru_46443), (wJ g m_replyLow 1 12 orl_46444), (wJ g m_bestUp 1 12 obu_46445), (wJ g m_bestLow 1 12 obl_46446), (wJ g m_worthUp 1 12 owu_46447), (wJ g m_worthLow 1 12 owl_46448), (wI g m_bestWay 0 12 obw_46449)] H := hP
  have hD : va_D A [(wO12 mm 0 m_s m_spare m_kept m_undone m_triedWay m_isKept i_undoMany m_tape i_length i_size i_p i_at i_token i_number i_letterMany i_fault i_faultAt m_letters o_isKnown_46438 m_choice m_row m_up m_low m_m m_bestUp m_bestLow m_replyUp m_replyLow m_worthUp m_worthLow m_bestWay i_seed m_told i_toldMany), (wI g m_s 0 193 sf), (wI g m_choice 0 12 ochf_46439), (wI g m_row 0 12 owf_46440), (wJ g m_up 1 12 ouf_46441), (wJ g m_low 1 12 olof_46442), (wR g m_m 5 12 (fun i => if i < 12 then some (rr i) else none)), (wJ g (rr 0) 1 13 (oct_46450 0)), (wJ g (rr 1) 1 13 (oct_46450 1)), (wJ g (rr 2) 1 13 (oct_46450 2)), (wJ g (rr 3) 1 13 (oct_46450 3)), (wJ g (rr 4) 1 13 (oct_46450 4)), (wJ g (rr 5) 1 13 (oct_46450 5)), (wJ g (rr 6) 1 13 (oct_46450 6)), (wJ g (rr 7) 1 13 (oct_46450 7)), (wJ g (rr 8) 1 13 (oct_46450 8)), (wJ g (rr 9) 1 13 (oct_46450 9)), (wJ g (rr 10) 1 13 (oct_46450 10)), (wJ g (rr 11) 1 13 (oct_46450 11)), (wJ g m_replyUp 1 12 oru_46443), (wJ g m_replyLow 1 12 orl_46444), (wJ g m_bestUp 1 12 obu_46445), (wJ g m_bestLow 1 12 obl_46446), (wJ g m_worthUp 1 12 owu_46447), (wJ g m_worthLow 1 12 owl_46448), (wI g m_bestWay 0 12 obw_46449)] := hD
  refine lv_iconst (v := 0) hx hb dX12_rank_9 (by decide) ?_
  refine lv_istore_n (lv' := [(2, .int 0), (0, .ref mm), (1, .int p0)]) hx hb dX12_rank_10 rfl hl (by decide) rfl (fun ls hl => ?_)
  have lp_52899 : ∀ (n_52899 : Nat) (x_52898 : Int32) (H : Heap) (locs : List Loc) (ls : Array Slot), (0 ≤ (x_52898 : Int32).toInt ∧ (x_52898 : Int32).toInt ≤ 12) → (12 - x_52898.toInt < (n_52899 : Int)) → va_P D vwCl [(wO12 mm 0 m_s m_spare m_kept m_undone m_triedWay m_isKept i_undoMany m_tape i_length i_size i_p i_at i_token i_number i_letterMany i_fault i_faultAt m_letters o_isKnown_46438 m_choice m_row m_up m_low m_m m_bestUp m_bestLow m_replyUp m_replyLow m_worthUp m_worthLow m_bestWay i_seed m_told i_toldMany), (wI g m_s 0 193 sf), (wI g m_choice 0 12 ochf_46439), (wI g m_row 0 12 owf_46440), (wJ g m_up 1 12 ouf_46441), (wJ g m_low 1 12 olof_46442), (wR g m_m 5 12 (fun i => if i < 12 then some (rr i) else none)), (wJ g (rr 0) 1 13 (oct_46450 0)), (wJ g (rr 1) 1 13 (oct_46450 1)), (wJ g (rr 2) 1 13 (oct_46450 2)), (wJ g (rr 3) 1 13 (oct_46450 3)), (wJ g (rr 4) 1 13 (oct_46450 4)), (wJ g (rr 5) 1 13 (oct_46450 5)), (wJ g (rr 6) 1 13 (oct_46450 6)), (wJ g (rr 7) 1 13 (oct_46450 7)), (wJ g (rr 8) 1 13 (oct_46450 8)), (wJ g (rr 9) 1 13 (oct_46450 9)), (wJ g (rr 10) 1 13 (oct_46450 10)), (wJ g (rr 11) 1 13 (oct_46450 11)), (wJ g m_replyUp 1 12 oru_46443), (wJ g m_replyLow 1 12 orl_46444), (wJ g m_bestUp 1 12 obu_46445), (wJ g m_bestLow 1 12 obl_46446), (wJ g m_worthUp 1 12 owu_46447), (wJ g m_worthLow 1 12 owl_46448), (wI g m_bestWay 0 12 obw_46449)] H → va_D A [(wO12 mm 0 m_s m_spare m_kept m_undone m_triedWay m_isKept i_undoMany m_tape i_length i_size i_p i_at i_token i_number i_letterMany i_fault i_faultAt m_letters o_isKnown_46438 m_choice m_row m_up m_low m_m m_bestUp m_bestLow m_replyUp m_replyLow m_worthUp m_worthLow m_bestWay i_seed m_told i_toldMany), (wI g m_s 0 193 sf), (wI g m_choice 0 12 ochf_46439), (wI g m_row 0 12 owf_46440), (wJ g m_up 1 12 ouf_46441), (wJ g m_low 1 12 olof_46442), (wR g m_m 5 12 (fun i => if i < 12 then some (rr i) else none)), (wJ g (rr 0) 1 13 (oct_46450 0)), (wJ g (rr 1) 1 13 (oct_46450 1)), (wJ g (rr 2) 1 13 (oct_46450 2)), (wJ g (rr 3) 1 13 (oct_46450 3)), (wJ g (rr 4) 1 13 (oct_46450 4)), (wJ g (rr 5) 1 13 (oct_46450 5)), (wJ g (rr 6) 1 13 (oct_46450 6)), (wJ g (rr 7) 1 13 (oct_46450 7)), (wJ g (rr 8) 1 13 (oct_46450 8)), (wJ g (rr 9) 1 13 (oct_46450 9)), (wJ g (rr 10) 1 13 (oct_46450 10)), (wJ g (rr 11) 1 13 (oct_46450 11)), (wJ g m_replyUp 1 12 oru_46443), (wJ g m_replyLow 1 12 orl_46444), (wJ g m_bestUp 1 12 obu_46445), (wJ g m_bestLow 1 12 obl_46446), (wJ g m_worthUp 1 12 owu_46447), (wJ g m_worthLow 1 12 owl_46448), (wI g m_bestWay 0 12 obw_46449)] → va_S A s.heap H locs → lv_has ls 5 [(2, .int x_52898), (0, .ref mm), (1, .int p0)] → W p l e (headSpec (.code yX12_rank cX12_rank 5 (some .int) :: wsL_law) ({ frames := 7, cells := 0, slots := 0, locals := 173 })).room s m args below meth c H locs 0 0 (MQ below (va_Qi (fun r (_ : Unit) => True) (fun _ t => ∃ o_thrown : Int32, ∃ o_isKnown : Int32, ∃ ochf : Nat → Int32, ∃ owf : Nat → Int32, ∃ ouf : Nat → Int64, ∃ olof : Nat → Int64, ∃ oru : Nat → Int64, ∃ orl : Nat → Int64, ∃ obu : Nat → Int64, ∃ obl : Nat → Int64, ∃ owu : Nat → Int64, ∃ owl : Nat → Int64, ∃ obw : Nat → Int32, ∃ oct : Nat → Nat → Int64, (0 ≤ (o_isKnown : Int32).toInt ∧ (o_isKnown : Int32).toInt ≤ 1) ∧ (∀ j : Nat, 0 ≤ (ochf j).toInt ∧ (ochf j).toInt ≤ 2) ∧ (∀ j : Nat, (-1) ≤ (owf j).toInt ∧ (owf j).toInt ≤ 11) ∧ (∀ j : Nat, 0 ≤ (obw j).toInt ∧ (obw j).toInt ≤ 2) ∧ va_P D vwCl [(wO12 mm o_thrown m_s m_spare m_kept m_undone m_triedWay m_isKept i_undoMany m_tape i_length i_size i_p i_at i_token i_number i_letterMany i_fault i_faultAt m_letters o_isKnown m_choice m_row m_up m_low m_m m_bestUp m_bestLow m_replyUp m_replyLow m_worthUp m_worthLow m_bestWay i_seed m_told i_toldMany), (wI g m_s 0 193 sf), (wI g m_choice 0 12 ochf), (wI g m_row 0 12 owf), (wJ g m_up 1 12 ouf), (wJ g m_low 1 12 olof), (wR g m_m 5 12 (fun i => if i < 12 then some (rr i) else none)), (wJ g (rr 0) 1 13 (oct 0)), (wJ g (rr 1) 1 13 (oct 1)), (wJ g (rr 2) 1 13 (oct 2)), (wJ g (rr 3) 1 13 (oct 3)), (wJ g (rr 4) 1 13 (oct 4)), (wJ g (rr 5) 1 13 (oct 5)), (wJ g (rr 6) 1 13 (oct 6)), (wJ g (rr 7) 1 13 (oct 7)), (wJ g (rr 8) 1 13 (oct 8)), (wJ g (rr 9) 1 13 (oct 9)), (wJ g (rr 10) 1 13 (oct 10)), (wJ g (rr 11) 1 13 (oct 11)), (wJ g m_replyUp 1 12 oru), (wJ g m_replyLow 1 12 orl), (wJ g m_bestUp 1 12 obu), (wJ g m_bestLow 1 12 obl), (wJ g m_worthUp 1 12 owu), (wJ g m_worthLow 1 12 owl), (wI g m_bestWay 0 12 obw)] t.heap ∧ va_D A [(wO12 mm o_thrown m_s m_spare m_kept m_undone m_triedWay m_isKept i_undoMany m_tape i_length i_size i_p i_at i_token i_number i_letterMany i_fault i_faultAt m_letters o_isKnown m_choice m_row m_up m_low m_m m_bestUp m_bestLow m_replyUp m_replyLow m_worthUp m_worthLow m_bestWay i_seed m_told i_toldMany), (wI g m_s 0 193 sf), (wI g m_choice 0 12 ochf), (wI g m_row 0 12 owf), (wJ g m_up 1 12 ouf), (wJ g m_low 1 12 olof), (wR g m_m 5 12 (fun i => if i < 12 then some (rr i) else none)), (wJ g (rr 0) 1 13 (oct 0)), (wJ g (rr 1) 1 13 (oct 1)), (wJ g (rr 2) 1 13 (oct 2)), (wJ g (rr 3) 1 13 (oct 3)), (wJ g (rr 4) 1 13 (oct 4)), (wJ g (rr 5) 1 13 (oct 5)), (wJ g (rr 6) 1 13 (oct 6)), (wJ g (rr 7) 1 13 (oct 7)), (wJ g (rr 8) 1 13 (oct 8)), (wJ g (rr 9) 1 13 (oct 9)), (wJ g (rr 10) 1 13 (oct 10)), (wJ g (rr 11) 1 13 (oct 11)), (wJ g m_replyUp 1 12 oru), (wJ g m_replyLow 1 12 orl), (wJ g m_bestUp 1 12 obu), (wJ g m_bestLow 1 12 obl), (wJ g m_worthUp 1 12 owu), (wJ g m_worthLow 1 12 owl), (wI g m_bestWay 0 12 obw)]) A) args s 0 0 A) (F0 m 11 ls []) := by
    intro n_52899
    induction n_52899 with
    | zero =>
      intro x_52898 H locs ls h_x_52898 hm_52899 hP hD hS hl
      exfalso; omega
    | succ n_52899 ih_52899 =>
      intro x_52898 H locs ls h_x_52898 hm_52899 hP hD hS hl
      refine lv_iload_n hx hb dX12_rank_11 rfl (lv_at hl 0 rfl) ?_
      refine lv_aload_n hx hb dX12_rank_12 rfl (lv_at hl 1 rfl) ?_
      refine va_get (D := D) (ci := 12) (v := .ref m_s) (C := RX12) (T := TX12) (N := 35) hx hb hts inlX12 hown hK hP 0 rfl rfl 1 (by decide) (hts (Cond.fieldLink RX12 13 "ChanceRingsModel" "s" "[I") qw_73) (fun _ h9 => h9) rfl dX12_rank_13 ?_
      refine lv_iconst (v := 0) hx hb dX12_rank_16 (by decide) ?_
      refine va_iald hx hb hK hP 1 0 rfl rfl (tz_in (by decide +kernel)) dX12_rank_17 ?_
      refine lv_topi (fun v_52900 v_52900_e => ?_)
      have h_v_52900 : 0 ≤ (v_52900 : Int32).toInt ∧ (v_52900 : Int32).toInt ≤ 12 := by rw [v_52900_e]; exact gr_nodes hG.r (⟨by decide, by decide⟩ : 0 ≤ (0 : Int32).toInt ∧ (0 : Int32).toInt ≤ 0)
      have g_v_52900 : v_52900 = sf (0) := v_52900_e.trans (congrArg sf rfl)
      have gi_v_52900 := congrArg Int32.toInt g_v_52900
      refine lv_icmp_ge (tgt := 137) hx hb dX12_rank_18 (by decide) (fun c_52901 => ?_) (fun c_52901 => ?_)
      · skip
        have c_52901_i := Int32.le_iff_toInt_le.mp c_52901
        refine lv_iconst (v := (-1)) hx hb dX12_rank_137 (by decide) ?_
        have hP9 := hP.sub (ws' := [(wO12 mm 0 m_s m_spare m_kept m_undone m_triedWay m_isKept i_undoMany m_tape i_length i_size i_p i_at i_token i_number i_letterMany i_fault i_faultAt m_letters o_isKnown_46438 m_choice m_row m_up m_low m_m m_bestUp m_bestLow m_replyUp m_replyLow m_worthUp m_worthLow m_bestWay i_seed m_told i_toldMany), (wI g m_s 0 193 sf), (wI g m_choice 0 12 ochf_46439), (wI g m_row 0 12 owf_46440), (wJ g m_up 1 12 ouf_46441), (wJ g m_low 1 12 olof_46442), (wR g m_m 5 12 (fun i => if i < 12 then some (rr i) else none)), (wJ g (rr 0) 1 13 (oct_46450 0)), (wJ g (rr 1) 1 13 (oct_46450 1)), (wJ g (rr 2) 1 13 (oct_46450 2)), (wJ g (rr 3) 1 13 (oct_46450 3)), (wJ g (rr 4) 1 13 (oct_46450 4)), (wJ g (rr 5) 1 13 (oct_46450 5)), (wJ g (rr 6) 1 13 (oct_46450 6)), (wJ g (rr 7) 1 13 (oct_46450 7)), (wJ g (rr 8) 1 13 (oct_46450 8)), (wJ g (rr 9) 1 13 (oct_46450 9)), (wJ g (rr 10) 1 13 (oct_46450 10)), (wJ g (rr 11) 1 13 (oct_46450 11)), (wJ g m_replyUp 1 12 oru_46443), (wJ g m_replyLow 1 12 orl_46444), (wJ g m_bestUp 1 12 obu_46445), (wJ g m_bestLow 1 12 obl_46446), (wJ g m_worthUp 1 12 owu_46447), (wJ g m_worthLow 1 12 owl_46448), (wI g m_bestWay 0 12 obw_46449)]) [0, 1, 2, 3, 4, 5, 6, 7, 8, 9, 10, 11, 12, 13, 14, 15, 16, 17, 18, 19, 20, 21, 22, 23, 24, 25] rfl
        have hD9 := hD.sub (ws' := [(wO12 mm 0 m_s m_spare m_kept m_undone m_triedWay m_isKept i_undoMany m_tape i_length i_size i_p i_at i_token i_number i_letterMany i_fault i_faultAt m_letters o_isKnown_46438 m_choice m_row m_up m_low m_m m_bestUp m_bestLow m_replyUp m_replyLow m_worthUp m_worthLow m_bestWay i_seed m_told i_toldMany), (wI g m_s 0 193 sf), (wI g m_choice 0 12 ochf_46439), (wI g m_row 0 12 owf_46440), (wJ g m_up 1 12 ouf_46441), (wJ g m_low 1 12 olof_46442), (wR g m_m 5 12 (fun i => if i < 12 then some (rr i) else none)), (wJ g (rr 0) 1 13 (oct_46450 0)), (wJ g (rr 1) 1 13 (oct_46450 1)), (wJ g (rr 2) 1 13 (oct_46450 2)), (wJ g (rr 3) 1 13 (oct_46450 3)), (wJ g (rr 4) 1 13 (oct_46450 4)), (wJ g (rr 5) 1 13 (oct_46450 5)), (wJ g (rr 6) 1 13 (oct_46450 6)), (wJ g (rr 7) 1 13 (oct_46450 7)), (wJ g (rr 8) 1 13 (oct_46450 8)), (wJ g (rr 9) 1 13 (oct_46450 9)), (wJ g (rr 10) 1 13 (oct_46450 10)), (wJ g (rr 11) 1 13 (oct_46450 11)), (wJ g m_replyUp 1 12 oru_46443), (wJ g m_replyLow 1 12 orl_46444), (wJ g m_bestUp 1 12 obu_46445), (wJ g m_bestLow 1 12 obl_46446), (wJ g m_worthUp 1 12 owu_46447), (wJ g m_worthLow 1 12 owl_46448), (wI g m_bestWay 0 12 obw_46449)]) [0, 1, 2, 3, 4, 5, 6, 7, 8, 9, 10, 11, 12, 13, 14, 15, 16, 17, 18, 19, 20, 21, 22, 23, 24, 25] (by decide) rfl
        exact W.iret (v := (-1)) hx hb hr (fun t ht hW => ⟨⟨(-1), (), rfl, trivial, 0, o_isKnown_46438, ochf_46439, owf_46440, ouf_46441, olof_46442, oru_46443, orl_46444, obu_46445, obl_46446, owu_46447, owl_46448, obw_46449, oct_46450, (tr_w hf_46451 (by decide) (by decide)), (tr_wa hf_46452 (by decide) (by decide)), (tr_wa hf_46453 (by decide) (by decide)), (tr_wa hf_46454 (by decide) (by decide)), by rw [ht]; exact hP9, hD9⟩, hS.F ht⟩) hS.2.2 dX12_rank_138
      · skip
        have c_52901_i := Int32.lt_iff_toInt_lt.mp (Int32.not_le.mp c_52901)
        have h_52902 : 0 ≤ (x_52898 : Int32).toInt ∧ (x_52898 : Int32).toInt ≤ 11 := nr_lt_l h_x_52898 h_v_52900 c_52901_i (by decide) (by decide)
        have h_52903 : 1 ≤ (v_52900 : Int32).toInt ∧ (v_52900 : Int32).toInt ≤ 12 := nr_lt_r h_x_52898 h_v_52900 c_52901_i (by decide) (by decide)
        refine lv_iconst (v := 0) hx hb dX12_rank_21 (by decide) ?_
        refine lv_istore_n (lv' := [(3, .int 0), (2, .int x_52898), (0, .ref mm), (1, .int p0)]) hx hb dX12_rank_22 rfl hl (by decide) rfl (fun ls hl => ?_)
        refine lv_iconst (v := 0) hx hb dX12_rank_23 (by decide) ?_
        refine lv_istore (lv' := [(4, .int 0), (3, .int 0), (2, .int x_52898), (0, .ref mm), (1, .int p0)]) hx hb dX12_rank_24 hl (by decide) rfl (fun ls hl => ?_)
        have lp_53721 : ∀ (n_53721 : Nat) (x_53719 : Int32) (x_53720 : Int32) (H : Heap) (locs : List Loc) (ls : Array Slot), (0 ≤ (x_53719 : Int32).toInt ∧ (x_53719 : Int32).toInt ≤ 12) → (12 - x_53719.toInt < (n_53721 : Int)) → va_P D vwCl [(wO12 mm 0 m_s m_spare m_kept m_undone m_triedWay m_isKept i_undoMany m_tape i_length i_size i_p i_at i_token i_number i_letterMany i_fault i_faultAt m_letters o_isKnown_46438 m_choice m_row m_up m_low m_m m_bestUp m_bestLow m_replyUp m_replyLow m_worthUp m_worthLow m_bestWay i_seed m_told i_toldMany), (wI g m_s 0 193 sf), (wI g m_choice 0 12 ochf_46439), (wI g m_row 0 12 owf_46440), (wJ g m_up 1 12 ouf_46441), (wJ g m_low 1 12 olof_46442), (wR g m_m 5 12 (fun i => if i < 12 then some (rr i) else none)), (wJ g (rr 0) 1 13 (oct_46450 0)), (wJ g (rr 1) 1 13 (oct_46450 1)), (wJ g (rr 2) 1 13 (oct_46450 2)), (wJ g (rr 3) 1 13 (oct_46450 3)), (wJ g (rr 4) 1 13 (oct_46450 4)), (wJ g (rr 5) 1 13 (oct_46450 5)), (wJ g (rr 6) 1 13 (oct_46450 6)), (wJ g (rr 7) 1 13 (oct_46450 7)), (wJ g (rr 8) 1 13 (oct_46450 8)), (wJ g (rr 9) 1 13 (oct_46450 9)), (wJ g (rr 10) 1 13 (oct_46450 10)), (wJ g (rr 11) 1 13 (oct_46450 11)), (wJ g m_replyUp 1 12 oru_46443), (wJ g m_replyLow 1 12 orl_46444), (wJ g m_bestUp 1 12 obu_46445), (wJ g m_bestLow 1 12 obl_46446), (wJ g m_worthUp 1 12 owu_46447), (wJ g m_worthLow 1 12 owl_46448), (wI g m_bestWay 0 12 obw_46449)] H → va_D A [(wO12 mm 0 m_s m_spare m_kept m_undone m_triedWay m_isKept i_undoMany m_tape i_length i_size i_p i_at i_token i_number i_letterMany i_fault i_faultAt m_letters o_isKnown_46438 m_choice m_row m_up m_low m_m m_bestUp m_bestLow m_replyUp m_replyLow m_worthUp m_worthLow m_bestWay i_seed m_told i_toldMany), (wI g m_s 0 193 sf), (wI g m_choice 0 12 ochf_46439), (wI g m_row 0 12 owf_46440), (wJ g m_up 1 12 ouf_46441), (wJ g m_low 1 12 olof_46442), (wR g m_m 5 12 (fun i => if i < 12 then some (rr i) else none)), (wJ g (rr 0) 1 13 (oct_46450 0)), (wJ g (rr 1) 1 13 (oct_46450 1)), (wJ g (rr 2) 1 13 (oct_46450 2)), (wJ g (rr 3) 1 13 (oct_46450 3)), (wJ g (rr 4) 1 13 (oct_46450 4)), (wJ g (rr 5) 1 13 (oct_46450 5)), (wJ g (rr 6) 1 13 (oct_46450 6)), (wJ g (rr 7) 1 13 (oct_46450 7)), (wJ g (rr 8) 1 13 (oct_46450 8)), (wJ g (rr 9) 1 13 (oct_46450 9)), (wJ g (rr 10) 1 13 (oct_46450 10)), (wJ g (rr 11) 1 13 (oct_46450 11)), (wJ g m_replyUp 1 12 oru_46443), (wJ g m_replyLow 1 12 orl_46444), (wJ g m_bestUp 1 12 obu_46445), (wJ g m_bestLow 1 12 obl_46446), (wJ g m_worthUp 1 12 owu_46447), (wJ g m_worthLow 1 12 owl_46448), (wI g m_bestWay 0 12 obw_46449)] → va_S A s.heap H locs → lv_has ls 5 [(4, .int x_53719), (3, .int x_53720), (2, .int x_52898), (0, .ref mm), (1, .int p0)] → W p l e (headSpec (.code yX12_rank cX12_rank 5 (some .int) :: wsL_law) ({ frames := 7, cells := 0, slots := 0, locals := 173 })).room s m args below meth c H locs 0 0 (MQ below (va_Qi (fun r (_ : Unit) => True) (fun _ t => ∃ o_thrown : Int32, ∃ o_isKnown : Int32, ∃ ochf : Nat → Int32, ∃ owf : Nat → Int32, ∃ ouf : Nat → Int64, ∃ olof : Nat → Int64, ∃ oru : Nat → Int64, ∃ orl : Nat → Int64, ∃ obu : Nat → Int64, ∃ obl : Nat → Int64, ∃ owu : Nat → Int64, ∃ owl : Nat → Int64, ∃ obw : Nat → Int32, ∃ oct : Nat → Nat → Int64, (0 ≤ (o_isKnown : Int32).toInt ∧ (o_isKnown : Int32).toInt ≤ 1) ∧ (∀ j : Nat, 0 ≤ (ochf j).toInt ∧ (ochf j).toInt ≤ 2) ∧ (∀ j : Nat, (-1) ≤ (owf j).toInt ∧ (owf j).toInt ≤ 11) ∧ (∀ j : Nat, 0 ≤ (obw j).toInt ∧ (obw j).toInt ≤ 2) ∧ va_P D vwCl [(wO12 mm o_thrown m_s m_spare m_kept m_undone m_triedWay m_isKept i_undoMany m_tape i_length i_size i_p i_at i_token i_number i_letterMany i_fault i_faultAt m_letters o_isKnown m_choice m_row m_up m_low m_m m_bestUp m_bestLow m_replyUp m_replyLow m_worthUp m_worthLow m_bestWay i_seed m_told i_toldMany), (wI g m_s 0 193 sf), (wI g m_choice 0 12 ochf), (wI g m_row 0 12 owf), (wJ g m_up 1 12 ouf), (wJ g m_low 1 12 olof), (wR g m_m 5 12 (fun i => if i < 12 then some (rr i) else none)), (wJ g (rr 0) 1 13 (oct 0)), (wJ g (rr 1) 1 13 (oct 1)), (wJ g (rr 2) 1 13 (oct 2)), (wJ g (rr 3) 1 13 (oct 3)), (wJ g (rr 4) 1 13 (oct 4)), (wJ g (rr 5) 1 13 (oct 5)), (wJ g (rr 6) 1 13 (oct 6)), (wJ g (rr 7) 1 13 (oct 7)), (wJ g (rr 8) 1 13 (oct 8)), (wJ g (rr 9) 1 13 (oct 9)), (wJ g (rr 10) 1 13 (oct 10)), (wJ g (rr 11) 1 13 (oct 11)), (wJ g m_replyUp 1 12 oru), (wJ g m_replyLow 1 12 orl), (wJ g m_bestUp 1 12 obu), (wJ g m_bestLow 1 12 obl), (wJ g m_worthUp 1 12 owu), (wJ g m_worthLow 1 12 owl), (wI g m_bestWay 0 12 obw)] t.heap ∧ va_D A [(wO12 mm o_thrown m_s m_spare m_kept m_undone m_triedWay m_isKept i_undoMany m_tape i_length i_size i_p i_at i_token i_number i_letterMany i_fault i_faultAt m_letters o_isKnown m_choice m_row m_up m_low m_m m_bestUp m_bestLow m_replyUp m_replyLow m_worthUp m_worthLow m_bestWay i_seed m_told i_toldMany), (wI g m_s 0 193 sf), (wI g m_choice 0 12 ochf), (wI g m_row 0 12 owf), (wJ g m_up 1 12 ouf), (wJ g m_low 1 12 olof), (wR g m_m 5 12 (fun i => if i < 12 then some (rr i) else none)), (wJ g (rr 0) 1 13 (oct 0)), (wJ g (rr 1) 1 13 (oct 1)), (wJ g (rr 2) 1 13 (oct 2)), (wJ g (rr 3) 1 13 (oct 3)), (wJ g (rr 4) 1 13 (oct 4)), (wJ g (rr 5) 1 13 (oct 5)), (wJ g (rr 6) 1 13 (oct 6)), (wJ g (rr 7) 1 13 (oct 7)), (wJ g (rr 8) 1 13 (oct 8)), (wJ g (rr 9) 1 13 (oct 9)), (wJ g (rr 10) 1 13 (oct 10)), (wJ g (rr 11) 1 13 (oct 11)), (wJ g m_replyUp 1 12 oru), (wJ g m_replyLow 1 12 orl), (wJ g m_bestUp 1 12 obu), (wJ g m_bestLow 1 12 obl), (wJ g m_worthUp 1 12 owu), (wJ g m_worthLow 1 12 owl), (wI g m_bestWay 0 12 obw)]) A) args s 0 0 A) (F0 m 26 ls []) := by
          intro n_53721
          induction n_53721 with
          | zero =>
            intro x_53719 x_53720 H locs ls h_x_53719 hm_53721 hP hD hS hl
            exfalso; omega
          | succ n_53721 ih_53721 =>
            intro x_53719 x_53720 H locs ls h_x_53719 hm_53721 hP hD hS hl
            refine lv_iload hx hb dX12_rank_26 (lv_at hl 0 rfl) ?_
            refine lv_aload_n hx hb dX12_rank_28 rfl (lv_at hl 3 rfl) ?_
            refine va_get (D := D) (ci := 12) (v := .ref m_s) (C := RX12) (T := TX12) (N := 35) hx hb hts inlX12 hown hK hP 0 rfl rfl 1 (by decide) (hts (Cond.fieldLink RX12 13 "ChanceRingsModel" "s" "[I") qw_73) (fun _ h9 => h9) rfl dX12_rank_29 ?_
            refine lv_iconst (v := 0) hx hb dX12_rank_32 (by decide) ?_
            refine va_iald hx hb hK hP 1 0 rfl rfl (tz_in (by decide +kernel)) dX12_rank_33 ?_
            refine tz_i (y := v_52900) g_v_52900.symm ?_
            refine lv_icmp_ge (tgt := 124) hx hb dX12_rank_34 (by decide) (fun c_53722 => ?_) (fun c_53722 => ?_)
            · skip
              have c_53722_i := Int32.le_iff_toInt_le.mp c_53722
              have h_53723 : 1 ≤ (x_53719 : Int32).toInt ∧ (x_53719 : Int32).toInt ≤ 12 := nr_le_r h_52903 h_x_53719 c_53722_i (by decide) (by decide)
              refine lv_iload_n hx hb dX12_rank_124 rfl (lv_at hl 1 rfl) ?_
              refine lv_iload_n hx hb dX12_rank_125 rfl (lv_at hl 4 rfl) ?_
              refine lv_icmp_ne (tgt := 131) hx hb dX12_rank_126 (by decide) (fun c_53725 => ?_) (fun c_53725 => ?_)
              · skip
                have c_53725_i : ¬ (x_53720 : Int32).toInt = (p0 : Int32).toInt := (fun q => c_53725 (Int32.toInt_inj.mp q))
                obtain ⟨v_53726, v_53726_e⟩ : ∃ y : Int32, y = x_52898 + Int32.ofInt 1 := ⟨_, rfl⟩
                have h_v_53726 : 1 ≤ (v_53726 : Int32).toInt ∧ (v_53726 : Int32).toInt ≤ 12 := by rw [v_53726_e]; exact tr_add h_52902 (⟨by decide, by decide⟩ : 1 ≤ (Int32.ofInt 1 : Int32).toInt ∧ (Int32.ofInt 1 : Int32).toInt ≤ 1) (by decide) (by decide) (by decide) (by decide)
                have q_v_53726 : v_53726.toInt = x_52898.toInt + 1 := by rw [v_53726_e]; exact tr_addE h_52902 (⟨by decide, by decide⟩ : 1 ≤ (Int32.ofInt 1 : Int32).toInt ∧ (Int32.ofInt 1 : Int32).toInt ≤ 1) (by decide) (by decide)
                refine lv_iinc (v := v_53726) (lv' := [(2, .int v_53726), (4, .int x_53719), (3, .int x_53720), (0, .ref mm), (1, .int p0)]) hx hb dX12_rank_131 hl (k := 2) rfl v_53726_e.symm (by decide) rfl (fun ls hl => ?_)
                refine lv_goto (tgt := 11) hx hb dX12_rank_134 (by decide) ?_
                exact ih_52899 v_53726 H _ ls (tr_w h_v_53726 (by decide) (by decide)) (by omega) (hP.sub [0, 1, 2, 3, 4, 5, 6, 7, 8, 9, 10, 11, 12, 13, 14, 15, 16, 17, 18, 19, 20, 21, 22, 23, 24, 25] rfl) (hD.sub [0, 1, 2, 3, 4, 5, 6, 7, 8, 9, 10, 11, 12, 13, 14, 15, 16, 17, 18, 19, 20, 21, 22, 23, 24, 25] (by decide) rfl) hS (lv_sub hl [0, 3, 4] rfl)
              · skip
                have c_53725_i : (x_53720 : Int32).toInt = (p0 : Int32).toInt := congrArg Int32.toInt c_53725
                refine lv_iload_n hx hb dX12_rank_129 rfl (lv_at hl 2 rfl) ?_
                have hP9 := hP.sub (ws' := [(wO12 mm 0 m_s m_spare m_kept m_undone m_triedWay m_isKept i_undoMany m_tape i_length i_size i_p i_at i_token i_number i_letterMany i_fault i_faultAt m_letters o_isKnown_46438 m_choice m_row m_up m_low m_m m_bestUp m_bestLow m_replyUp m_replyLow m_worthUp m_worthLow m_bestWay i_seed m_told i_toldMany), (wI g m_s 0 193 sf), (wI g m_choice 0 12 ochf_46439), (wI g m_row 0 12 owf_46440), (wJ g m_up 1 12 ouf_46441), (wJ g m_low 1 12 olof_46442), (wR g m_m 5 12 (fun i => if i < 12 then some (rr i) else none)), (wJ g (rr 0) 1 13 (oct_46450 0)), (wJ g (rr 1) 1 13 (oct_46450 1)), (wJ g (rr 2) 1 13 (oct_46450 2)), (wJ g (rr 3) 1 13 (oct_46450 3)), (wJ g (rr 4) 1 13 (oct_46450 4)), (wJ g (rr 5) 1 13 (oct_46450 5)), (wJ g (rr 6) 1 13 (oct_46450 6)), (wJ g (rr 7) 1 13 (oct_46450 7)), (wJ g (rr 8) 1 13 (oct_46450 8)), (wJ g (rr 9) 1 13 (oct_46450 9)), (wJ g (rr 10) 1 13 (oct_46450 10)), (wJ g (rr 11) 1 13 (oct_46450 11)), (wJ g m_replyUp 1 12 oru_46443), (wJ g m_replyLow 1 12 orl_46444), (wJ g m_bestUp 1 12 obu_46445), (wJ g m_bestLow 1 12 obl_46446), (wJ g m_worthUp 1 12 owu_46447), (wJ g m_worthLow 1 12 owl_46448), (wI g m_bestWay 0 12 obw_46449)]) [0, 1, 2, 3, 4, 5, 6, 7, 8, 9, 10, 11, 12, 13, 14, 15, 16, 17, 18, 19, 20, 21, 22, 23, 24, 25] rfl
                have hD9 := hD.sub (ws' := [(wO12 mm 0 m_s m_spare m_kept m_undone m_triedWay m_isKept i_undoMany m_tape i_length i_size i_p i_at i_token i_number i_letterMany i_fault i_faultAt m_letters o_isKnown_46438 m_choice m_row m_up m_low m_m m_bestUp m_bestLow m_replyUp m_replyLow m_worthUp m_worthLow m_bestWay i_seed m_told i_toldMany), (wI g m_s 0 193 sf), (wI g m_choice 0 12 ochf_46439), (wI g m_row 0 12 owf_46440), (wJ g m_up 1 12 ouf_46441), (wJ g m_low 1 12 olof_46442), (wR g m_m 5 12 (fun i => if i < 12 then some (rr i) else none)), (wJ g (rr 0) 1 13 (oct_46450 0)), (wJ g (rr 1) 1 13 (oct_46450 1)), (wJ g (rr 2) 1 13 (oct_46450 2)), (wJ g (rr 3) 1 13 (oct_46450 3)), (wJ g (rr 4) 1 13 (oct_46450 4)), (wJ g (rr 5) 1 13 (oct_46450 5)), (wJ g (rr 6) 1 13 (oct_46450 6)), (wJ g (rr 7) 1 13 (oct_46450 7)), (wJ g (rr 8) 1 13 (oct_46450 8)), (wJ g (rr 9) 1 13 (oct_46450 9)), (wJ g (rr 10) 1 13 (oct_46450 10)), (wJ g (rr 11) 1 13 (oct_46450 11)), (wJ g m_replyUp 1 12 oru_46443), (wJ g m_replyLow 1 12 orl_46444), (wJ g m_bestUp 1 12 obu_46445), (wJ g m_bestLow 1 12 obl_46446), (wJ g m_worthUp 1 12 owu_46447), (wJ g m_worthLow 1 12 owl_46448), (wI g m_bestWay 0 12 obw_46449)]) [0, 1, 2, 3, 4, 5, 6, 7, 8, 9, 10, 11, 12, 13, 14, 15, 16, 17, 18, 19, 20, 21, 22, 23, 24, 25] (by decide) rfl
                exact W.iret (v := x_52898) hx hb hr (fun t ht hW => ⟨⟨x_52898, (), rfl, trivial, 0, o_isKnown_46438, ochf_46439, owf_46440, ouf_46441, olof_46442, oru_46443, orl_46444, obu_46445, obl_46446, owu_46447, owl_46448, obw_46449, oct_46450, (tr_w hf_46451 (by decide) (by decide)), (tr_wa hf_46452 (by decide) (by decide)), (tr_wa hf_46453 (by decide) (by decide)), (tr_wa hf_46454 (by decide) (by decide)), by rw [ht]; exact hP9, hD9⟩, hS.F ht⟩) hS.2.2 dX12_rank_130
            · skip
              have c_53722_i := Int32.lt_iff_toInt_lt.mp (Int32.not_le.mp c_53722)
              have h_53724 : 0 ≤ (x_53719 : Int32).toInt ∧ (x_53719 : Int32).toInt ≤ 11 := nr_lt_l h_x_53719 h_52903 c_53722_i (by decide) (by decide)
              refine lv_aload_n hx hb dX12_rank_37 rfl (lv_at hl 3 rfl) ?_
              refine va_get (D := D) (ci := 12) (v := .ref m_worthUp) (C := RX12) (T := TX12) (N := 35) hx hb hts inlX12 hown hK hP 0 rfl rfl 29 (by decide) (hts (Cond.fieldLink RX12 70 "ChanceRingsModel" "worthUp" "[J") qw_173) (fun _ h9 => h9) rfl dX12_rank_38 ?_
              refine lv_iload hx hb dX12_rank_41 (lv_at hl 0 rfl) ?_
              refine va_lald hx hb hK hP 23 1 rfl rfl (tr_in h_53724 (by decide) (by decide)) dX12_rank_43 ?_
              refine lv_topl (fun w_53727 w_53727_e => ?_)
              have g_w_53727 : w_53727 = owu_46447 (x_53719.toInt.toNat) := w_53727_e.trans (congrArg owu_46447 rfl)
              refine lv_aload_n hx hb dX12_rank_44 rfl (lv_at hl 3 rfl) ?_
              refine va_get (D := D) (ci := 12) (v := .ref m_worthLow) (C := RX12) (T := TX12) (N := 35) hx hb hts inlX12 hown hK hP 0 rfl rfl 30 (by decide) (hts (Cond.fieldLink RX12 73 "ChanceRingsModel" "worthLow" "[J") qw_174) (fun _ h9 => h9) rfl dX12_rank_45 ?_
              refine lv_iload hx hb dX12_rank_48 (lv_at hl 0 rfl) ?_
              refine va_lald hx hb hK hP 24 1 rfl rfl (tr_in h_53724 (by decide) (by decide)) dX12_rank_50 ?_
              refine lv_topl (fun w_53728 w_53728_e => ?_)
              have g_w_53728 : w_53728 = owl_46448 (x_53719.toInt.toNat) := w_53728_e.trans (congrArg owl_46448 rfl)
              refine lv_aload_n hx hb dX12_rank_51 rfl (lv_at hl 3 rfl) ?_
              refine va_get (D := D) (ci := 12) (v := .ref m_worthUp) (C := RX12) (T := TX12) (N := 35) hx hb hts inlX12 hown hK hP 0 rfl rfl 29 (by decide) (hts (Cond.fieldLink RX12 70 "ChanceRingsModel" "worthUp" "[J") qw_173) (fun _ h9 => h9) rfl dX12_rank_52 ?_
              refine lv_iload_n hx hb dX12_rank_55 rfl (lv_at hl 2 rfl) ?_
              refine va_lald hx hb hK hP 23 1 rfl rfl (tr_in h_52902 (by decide) (by decide)) dX12_rank_56 ?_
              refine lv_topl (fun w_53729 w_53729_e => ?_)
              have g_w_53729 : w_53729 = owu_46447 (x_52898.toInt.toNat) := w_53729_e.trans (congrArg owu_46447 rfl)
              refine lv_aload_n hx hb dX12_rank_57 rfl (lv_at hl 3 rfl) ?_
              refine va_get (D := D) (ci := 12) (v := .ref m_worthLow) (C := RX12) (T := TX12) (N := 35) hx hb hts inlX12 hown hK hP 0 rfl rfl 30 (by decide) (hts (Cond.fieldLink RX12 73 "ChanceRingsModel" "worthLow" "[J") qw_174) (fun _ h9 => h9) rfl dX12_rank_58 ?_
              refine lv_iload_n hx hb dX12_rank_61 rfl (lv_at hl 2 rfl) ?_
              refine va_lald hx hb hK hP 24 1 rfl rfl (tr_in h_52902 (by decide) (by decide)) dX12_rank_62 ?_
              refine lv_topl (fun w_53730 w_53730_e => ?_)
              have g_w_53730 : w_53730 = owl_46448 (x_52898.toInt.toNat) := w_53730_e.trans (congrArg owl_46448 rfl)
              have hPc := hP.sub (ws' := []) [] rfl
              refine vp_callSi (va_Run.run (va_runS (As := [.long w_53727, .long w_53728, .long w_53729, .long w_53730]) (rest := []) ⟨hx, hb, hml, hown, hts⟩ (c_X12_isMore l D g w_53727 w_53728 w_53729 w_53730) (va_cwS 4 hts (tz_gS qw_170 qw_171 qw_3 qw_172) rfl rfl rfl (by decide +kernel) ⟨Nat.le_of_ble_eq_true rfl, Nat.le_of_ble_eq_true rfl⟩) ⟨tz_blS, tz_preS hPc hK⟩ rfl rfl hl.1 rfl (lv_room (Nat.le_of_ble_eq_true rfl)) dX12_rank_63 ⟨Nat.le_of_ble_eq_true rfl, Nat.le_of_ble_eq_true rfl⟩)) (fun r_53731 hw => ?_)
              have hw_53732 : 0 ≤ (r_53731 : Int32).toInt ∧ (r_53731 : Int32).toInt ≤ 1 := hw.1
              have hw_53732_p0 : Hide (¬ (r_53731 : Int32).toInt = 0 → ((w_53729 : Int64) * (w_53728 : Int64)).toInt < ((w_53727 : Int64) * (w_53730 : Int64)).toInt) := hw.2.1
              have hw_53732_p1 : Hide ((r_53731 : Int32).toInt = 0 → ((w_53727 : Int64) * (w_53730 : Int64)).toInt ≤ ((w_53729 : Int64) * (w_53728 : Int64)).toInt) := hw.2.2
              refine lv_if_eq (tgt := 75) hx hb dX12_rank_66 (by decide) (fun c_53733 => ?_) (fun c_53733 => ?_)
              · skip
                have kk_0 := tk_0
                have c_53733_i : (r_53731 : Int32).toInt = (0 : Int32).toInt := congrArg Int32.toInt c_53733
                have hw_53732_p1_u := (hw_53732_p1).get (c_53733_i.trans tk_0)
                have h_53734 : 0 ≤ (r_53731 : Int32).toInt ∧ (r_53731 : Int32).toInt ≤ 0 := nr_eq_l hw_53732 (⟨by decide, by decide⟩ : 0 ≤ (0 : Int32).toInt ∧ (0 : Int32).toInt ≤ 0) c_53733_i (by decide) (by decide)
                refine lv_iload hx hb dX12_rank_75 (lv_at hl 0 rfl) ?_
                refine lv_iload_n hx hb dX12_rank_77 rfl (lv_at hl 2 rfl) ?_
                refine lv_icmp_ge (tgt := 118) hx hb dX12_rank_78 (by decide) (fun c_53736 => ?_) (fun c_53736 => ?_)
                · skip
                  have c_53736_i := Int32.le_iff_toInt_le.mp c_53736
                  obtain ⟨v_53739, v_53739_e⟩ : ∃ y : Int32, y = x_53719 + Int32.ofInt 1 := ⟨_, rfl⟩
                  have h_v_53739 : 1 ≤ (v_53739 : Int32).toInt ∧ (v_53739 : Int32).toInt ≤ 12 := by rw [v_53739_e]; exact tr_add h_53724 (⟨by decide, by decide⟩ : 1 ≤ (Int32.ofInt 1 : Int32).toInt ∧ (Int32.ofInt 1 : Int32).toInt ≤ 1) (by decide) (by decide) (by decide) (by decide)
                  have q_v_53739 : v_53739.toInt = x_53719.toInt + 1 := by rw [v_53739_e]; exact tr_addE h_53724 (⟨by decide, by decide⟩ : 1 ≤ (Int32.ofInt 1 : Int32).toInt ∧ (Int32.ofInt 1 : Int32).toInt ≤ 1) (by decide) (by decide)
                  refine lv_iinc (v := v_53739) (lv' := [(4, .int v_53739), (3, .int x_53720), (2, .int x_52898), (0, .ref mm), (1, .int p0)]) hx hb dX12_rank_118 hl (k := 0) rfl v_53739_e.symm (by decide) rfl (fun ls hl => ?_)
                  refine lv_goto (tgt := 26) hx hb dX12_rank_121 (by decide) ?_
                  exact ih_53721 v_53739 x_53720 H _ ls (tr_w h_v_53739 (by decide) (by decide)) (by (first | (clear h_i_isKnown hw_53732 c_53733_i h_53734; omega) | omega)) (hP.sub [0, 1, 2, 3, 4, 5, 6, 7, 8, 9, 10, 11, 12, 13, 14, 15, 16, 17, 18, 19, 20, 21, 22, 23, 24, 25] rfl) (hD.sub [0, 1, 2, 3, 4, 5, 6, 7, 8, 9, 10, 11, 12, 13, 14, 15, 16, 17, 18, 19, 20, 21, 22, 23, 24, 25] (by decide) rfl) hS (lv_sub hl [0, 1, 2, 3, 4] rfl)
                · skip
                  have c_53736_i := Int32.lt_iff_toInt_lt.mp (Int32.not_le.mp c_53736)
                  have h_53737 : 0 ≤ (x_53719 : Int32).toInt ∧ (x_53719 : Int32).toInt ≤ 10 := nr_lt_l h_53724 h_52902 c_53736_i (by decide) (by decide)
                  have h_53738 : 1 ≤ (x_52898 : Int32).toInt ∧ (x_52898 : Int32).toInt ≤ 11 := nr_lt_r h_53724 h_52902 c_53736_i (by decide) (by decide)
                  refine lv_aload_n hx hb dX12_rank_81 rfl (lv_at hl 3 rfl) ?_
                  refine va_get (D := D) (ci := 12) (v := .ref m_worthUp) (C := RX12) (T := TX12) (N := 35) hx hb hts inlX12 hown hK hP 0 rfl rfl 29 (by decide) (hts (Cond.fieldLink RX12 70 "ChanceRingsModel" "worthUp" "[J") qw_173) (fun _ h9 => h9) rfl dX12_rank_82 ?_
                  refine lv_iload hx hb dX12_rank_85 (lv_at hl 0 rfl) ?_
                  refine va_lald hx hb hK hP 23 1 rfl rfl (tr_in h_53737 (by decide) (by decide)) dX12_rank_87 ?_
                  refine lv_topl (fun w_53740 w_53740_e => ?_)
                  have g_w_53740 : w_53740 = owu_46447 (x_53719.toInt.toNat) := w_53740_e.trans (congrArg owu_46447 rfl)
                  refine lv_aload_n hx hb dX12_rank_88 rfl (lv_at hl 3 rfl) ?_
                  refine va_get (D := D) (ci := 12) (v := .ref m_worthUp) (C := RX12) (T := TX12) (N := 35) hx hb hts inlX12 hown hK hP 0 rfl rfl 29 (by decide) (hts (Cond.fieldLink RX12 70 "ChanceRingsModel" "worthUp" "[J") qw_173) (fun _ h9 => h9) rfl dX12_rank_89 ?_
                  refine lv_iload_n hx hb dX12_rank_92 rfl (lv_at hl 2 rfl) ?_
                  refine va_lald hx hb hK hP 23 1 rfl rfl (tr_in h_53738 (by decide) (by decide)) dX12_rank_93 ?_
                  refine lv_topl (fun w_53741 w_53741_e => ?_)
                  have g_w_53741 : w_53741 = owu_46447 (x_52898.toInt.toNat) := w_53741_e.trans (congrArg owu_46447 rfl)
                  refine W.lcmp hx hb dX12_rank_94 ?_
                  refine lv_topi (fun v_53742 v_53742_e => ?_)
                  have h_v_53742 : (-1) ≤ (v_53742 : Int32).toInt ∧ (v_53742 : Int32).toInt ≤ 1 := by rw [v_53742_e]; exact tr_cmp _ _
                  refine lv_if_ne (tgt := 118) hx hb dX12_rank_95 (by decide) (fun c_53743 => ?_) (fun c_53743 => ?_)
                  · skip
                    obtain ⟨v_53745, v_53745_e⟩ : ∃ y : Int32, y = x_53719 + Int32.ofInt 1 := ⟨_, rfl⟩
                    have h_v_53745 : 1 ≤ (v_53745 : Int32).toInt ∧ (v_53745 : Int32).toInt ≤ 11 := by rw [v_53745_e]; exact tr_add h_53737 (⟨by decide, by decide⟩ : 1 ≤ (Int32.ofInt 1 : Int32).toInt ∧ (Int32.ofInt 1 : Int32).toInt ≤ 1) (by decide) (by decide) (by decide) (by decide)
                    have q_v_53745 : v_53745.toInt = x_53719.toInt + 1 := by rw [v_53745_e]; exact tr_addE h_53737 (⟨by decide, by decide⟩ : 1 ≤ (Int32.ofInt 1 : Int32).toInt ∧ (Int32.ofInt 1 : Int32).toInt ≤ 1) (by decide) (by decide)
                    refine lv_iinc (v := v_53745) (lv' := [(4, .int v_53745), (3, .int x_53720), (2, .int x_52898), (0, .ref mm), (1, .int p0)]) hx hb dX12_rank_118 hl (k := 0) rfl v_53745_e.symm (by decide) rfl (fun ls hl => ?_)
                    refine lv_goto (tgt := 26) hx hb dX12_rank_121 (by decide) ?_
                    exact ih_53721 v_53745 x_53720 H _ ls (tr_w h_v_53745 (by decide) (by decide)) (by (first | (clear h_i_isKnown hw_53732 c_53733_i h_53734 h_v_53742; omega) | omega)) (hP.sub [0, 1, 2, 3, 4, 5, 6, 7, 8, 9, 10, 11, 12, 13, 14, 15, 16, 17, 18, 19, 20, 21, 22, 23, 24, 25] rfl) (hD.sub [0, 1, 2, 3, 4, 5, 6, 7, 8, 9, 10, 11, 12, 13, 14, 15, 16, 17, 18, 19, 20, 21, 22, 23, 24, 25] (by decide) rfl) hS (lv_sub hl [0, 1, 2, 3, 4] rfl)
                  · skip
                    have c_53743_i : (v_53742 : Int32).toInt = (0 : Int32).toInt := congrArg Int32.toInt c_53743
                    have h_53744 : 0 ≤ (v_53742 : Int32).toInt ∧ (v_53742 : Int32).toInt ≤ 0 := nr_eq_l h_v_53742 (⟨by decide, by decide⟩ : 0 ≤ (0 : Int32).toInt ∧ (0 : Int32).toInt ≤ 0) c_53743_i (by decide) (by decide)
                    refine lv_aload_n hx hb dX12_rank_98 rfl (lv_at hl 3 rfl) ?_
                    refine va_get (D := D) (ci := 12) (v := .ref m_worthLow) (C := RX12) (T := TX12) (N := 35) hx hb hts inlX12 hown hK hP 0 rfl rfl 30 (by decide) (hts (Cond.fieldLink RX12 73 "ChanceRingsModel" "worthLow" "[J") qw_174) (fun _ h9 => h9) rfl dX12_rank_99 ?_
                    refine lv_iload hx hb dX12_rank_102 (lv_at hl 0 rfl) ?_
                    refine va_lald hx hb hK hP 24 1 rfl rfl (tr_in h_53737 (by decide) (by decide)) dX12_rank_104 ?_
                    refine lv_topl (fun w_53746 w_53746_e => ?_)
                    have g_w_53746 : w_53746 = owl_46448 (x_53719.toInt.toNat) := w_53746_e.trans (congrArg owl_46448 rfl)
                    refine lv_aload_n hx hb dX12_rank_105 rfl (lv_at hl 3 rfl) ?_
                    refine va_get (D := D) (ci := 12) (v := .ref m_worthLow) (C := RX12) (T := TX12) (N := 35) hx hb hts inlX12 hown hK hP 0 rfl rfl 30 (by decide) (hts (Cond.fieldLink RX12 73 "ChanceRingsModel" "worthLow" "[J") qw_174) (fun _ h9 => h9) rfl dX12_rank_106 ?_
                    refine lv_iload_n hx hb dX12_rank_109 rfl (lv_at hl 2 rfl) ?_
                    refine va_lald hx hb hK hP 24 1 rfl rfl (tr_in h_53738 (by decide) (by decide)) dX12_rank_110 ?_
                    refine lv_topl (fun w_53747 w_53747_e => ?_)
                    have g_w_53747 : w_53747 = owl_46448 (x_52898.toInt.toNat) := w_53747_e.trans (congrArg owl_46448 rfl)
                    refine W.lcmp hx hb dX12_rank_111 ?_
                    refine lv_topi (fun v_53748 v_53748_e => ?_)
                    have h_v_53748 : (-1) ≤ (v_53748 : Int32).toInt ∧ (v_53748 : Int32).toInt ≤ 1 := by rw [v_53748_e]; exact tr_cmp _ _
                    refine lv_if_ne (tgt := 118) hx hb dX12_rank_112 (by decide) (fun c_53749 => ?_) (fun c_53749 => ?_)
                    · skip
                      obtain ⟨v_53751, v_53751_e⟩ : ∃ y : Int32, y = x_53719 + Int32.ofInt 1 := ⟨_, rfl⟩
                      have h_v_53751 : 1 ≤ (v_53751 : Int32).toInt ∧ (v_53751 : Int32).toInt ≤ 11 := by rw [v_53751_e]; exact tr_add h_53737 (⟨by decide, by decide⟩ : 1 ≤ (Int32.ofInt 1 : Int32).toInt ∧ (Int32.ofInt 1 : Int32).toInt ≤ 1) (by decide) (by decide) (by decide) (by decide)
                      have q_v_53751 : v_53751.toInt = x_53719.toInt + 1 := by rw [v_53751_e]; exact tr_addE h_53737 (⟨by decide, by decide⟩ : 1 ≤ (Int32.ofInt 1 : Int32).toInt ∧ (Int32.ofInt 1 : Int32).toInt ≤ 1) (by decide) (by decide)
                      refine lv_iinc (v := v_53751) (lv' := [(4, .int v_53751), (3, .int x_53720), (2, .int x_52898), (0, .ref mm), (1, .int p0)]) hx hb dX12_rank_118 hl (k := 0) rfl v_53751_e.symm (by decide) rfl (fun ls hl => ?_)
                      refine lv_goto (tgt := 26) hx hb dX12_rank_121 (by decide) ?_
                      exact ih_53721 v_53751 x_53720 H _ ls (tr_w h_v_53751 (by decide) (by decide)) (by (first | (clear h_i_isKnown hw_53732 c_53733_i h_53734 h_v_53742 c_53743_i h_53744 h_v_53748; omega) | omega)) (hP.sub [0, 1, 2, 3, 4, 5, 6, 7, 8, 9, 10, 11, 12, 13, 14, 15, 16, 17, 18, 19, 20, 21, 22, 23, 24, 25] rfl) (hD.sub [0, 1, 2, 3, 4, 5, 6, 7, 8, 9, 10, 11, 12, 13, 14, 15, 16, 17, 18, 19, 20, 21, 22, 23, 24, 25] (by decide) rfl) hS (lv_sub hl [0, 1, 2, 3, 4] rfl)
                    · skip
                      have c_53749_i : (v_53748 : Int32).toInt = (0 : Int32).toInt := congrArg Int32.toInt c_53749
                      have h_53750 : 0 ≤ (v_53748 : Int32).toInt ∧ (v_53748 : Int32).toInt ≤ 0 := nr_eq_l h_v_53748 (⟨by decide, by decide⟩ : 0 ≤ (0 : Int32).toInt ∧ (0 : Int32).toInt ≤ 0) c_53749_i (by decide) (by decide)
                      obtain ⟨v_53752, v_53752_e⟩ : ∃ y : Int32, y = x_53720 + Int32.ofInt 1 := ⟨_, rfl⟩
                      refine lv_iinc (v := v_53752) (lv' := [(3, .int v_53752), (4, .int x_53719), (2, .int x_52898), (0, .ref mm), (1, .int p0)]) hx hb dX12_rank_115 hl (k := 1) rfl v_53752_e.symm (by decide) rfl (fun ls hl => ?_)
                      obtain ⟨v_53753, v_53753_e⟩ : ∃ y : Int32, y = x_53719 + Int32.ofInt 1 := ⟨_, rfl⟩
                      have h_v_53753 : 1 ≤ (v_53753 : Int32).toInt ∧ (v_53753 : Int32).toInt ≤ 11 := by rw [v_53753_e]; exact tr_add h_53737 (⟨by decide, by decide⟩ : 1 ≤ (Int32.ofInt 1 : Int32).toInt ∧ (Int32.ofInt 1 : Int32).toInt ≤ 1) (by decide) (by decide) (by decide) (by decide)
                      have q_v_53753 : v_53753.toInt = x_53719.toInt + 1 := by rw [v_53753_e]; exact tr_addE h_53737 (⟨by decide, by decide⟩ : 1 ≤ (Int32.ofInt 1 : Int32).toInt ∧ (Int32.ofInt 1 : Int32).toInt ≤ 1) (by decide) (by decide)
                      refine lv_iinc (v := v_53753) (lv' := [(4, .int v_53753), (3, .int v_53752), (2, .int x_52898), (0, .ref mm), (1, .int p0)]) hx hb dX12_rank_118 hl (k := 1) rfl v_53753_e.symm (by decide) rfl (fun ls hl => ?_)
                      refine lv_goto (tgt := 26) hx hb dX12_rank_121 (by decide) ?_
                      exact ih_53721 v_53753 v_53752 H _ ls (tr_w h_v_53753 (by decide) (by decide)) (by (first | (clear h_i_isKnown hw_53732 c_53733_i h_53734 h_v_53742 c_53743_i h_53744 h_v_53748 c_53749_i h_53750; omega) | omega)) (hP.sub [0, 1, 2, 3, 4, 5, 6, 7, 8, 9, 10, 11, 12, 13, 14, 15, 16, 17, 18, 19, 20, 21, 22, 23, 24, 25] rfl) (hD.sub [0, 1, 2, 3, 4, 5, 6, 7, 8, 9, 10, 11, 12, 13, 14, 15, 16, 17, 18, 19, 20, 21, 22, 23, 24, 25] (by decide) rfl) hS (lv_sub hl [0, 1, 2, 3, 4] rfl)
              · skip
                have kk_0 := tk_0
                have c_53733_i : ¬ (r_53731 : Int32).toInt = (0 : Int32).toInt := (fun q => c_53733 (Int32.toInt_inj.mp q))
                have hw_53732_p0_u := (hw_53732_p0).get (fun q => c_53733_i (q.trans tk_0.symm))
                have h_53735 : 1 ≤ (r_53731 : Int32).toInt ∧ (r_53731 : Int32).toInt ≤ 1 := nr_ne_l hw_53732 (⟨by decide, by decide⟩ : 0 ≤ (0 : Int32).toInt ∧ (0 : Int32).toInt ≤ 0) c_53733_i (by decide) (by decide)
                obtain ⟨v_53754, v_53754_e⟩ : ∃ y : Int32, y = x_53720 + Int32.ofInt 1 := ⟨_, rfl⟩
                refine lv_iinc (v := v_53754) (lv' := [(3, .int v_53754), (4, .int x_53719), (2, .int x_52898), (0, .ref mm), (1, .int p0)]) hx hb dX12_rank_69 hl (k := 1) rfl v_53754_e.symm (by decide) rfl (fun ls hl => ?_)
                refine lv_goto (tgt := 118) hx hb dX12_rank_72 (by decide) ?_
                obtain ⟨v_53755, v_53755_e⟩ : ∃ y : Int32, y = x_53719 + Int32.ofInt 1 := ⟨_, rfl⟩
                have h_v_53755 : 1 ≤ (v_53755 : Int32).toInt ∧ (v_53755 : Int32).toInt ≤ 12 := by rw [v_53755_e]; exact tr_add h_53724 (⟨by decide, by decide⟩ : 1 ≤ (Int32.ofInt 1 : Int32).toInt ∧ (Int32.ofInt 1 : Int32).toInt ≤ 1) (by decide) (by decide) (by decide) (by decide)
                have q_v_53755 : v_53755.toInt = x_53719.toInt + 1 := by rw [v_53755_e]; exact tr_addE h_53724 (⟨by decide, by decide⟩ : 1 ≤ (Int32.ofInt 1 : Int32).toInt ∧ (Int32.ofInt 1 : Int32).toInt ≤ 1) (by decide) (by decide)
                refine lv_iinc (v := v_53755) (lv' := [(4, .int v_53755), (3, .int v_53754), (2, .int x_52898), (0, .ref mm), (1, .int p0)]) hx hb dX12_rank_118 hl (k := 1) rfl v_53755_e.symm (by decide) rfl (fun ls hl => ?_)
                refine lv_goto (tgt := 26) hx hb dX12_rank_121 (by decide) ?_
                exact ih_53721 v_53755 v_53754 H _ ls (tr_w h_v_53755 (by decide) (by decide)) (by (first | (clear h_i_isKnown hw_53732 c_53733_i h_53735; omega) | omega)) (hP.sub [0, 1, 2, 3, 4, 5, 6, 7, 8, 9, 10, 11, 12, 13, 14, 15, 16, 17, 18, 19, 20, 21, 22, 23, 24, 25] rfl) (hD.sub [0, 1, 2, 3, 4, 5, 6, 7, 8, 9, 10, 11, 12, 13, 14, 15, 16, 17, 18, 19, 20, 21, 22, 23, 24, 25] (by decide) rfl) hS (lv_sub hl [0, 1, 2, 3, 4] rfl)
        exact lp_53721 13 0 0 H _ ls (⟨by decide, by decide⟩ : 0 ≤ (0 : Int32).toInt ∧ (0 : Int32).toInt ≤ 12) (by decide) (hP.sub [0, 1, 2, 3, 4, 5, 6, 7, 8, 9, 10, 11, 12, 13, 14, 15, 16, 17, 18, 19, 20, 21, 22, 23, 24, 25] rfl) (hD.sub [0, 1, 2, 3, 4, 5, 6, 7, 8, 9, 10, 11, 12, 13, 14, 15, 16, 17, 18, 19, 20, 21, 22, 23, 24, 25] (by decide) rfl) hS (lv_sub hl [0, 1, 2, 3, 4] rfl)
  exact lp_52899 13 0 H _ ls (⟨by decide, by decide⟩ : 0 ≤ (0 : Int32).toInt ∧ (0 : Int32).toInt ≤ 12) (by decide) (hP.sub [0, 1, 2, 3, 4, 5, 6, 7, 8, 9, 10, 11, 12, 13, 14, 15, 16, 17, 18, 19, 20, 21, 22, 23, 24, 25] rfl) (hD.sub [0, 1, 2, 3, 4, 5, 6, 7, 8, 9, 10, 11, 12, 13, 14, 15, 16, 17, 18, 19, 20, 21, 22, 23, 24, 25] (by decide) rfl) hS (lv_sub hl [0, 1, 2] rfl)
/-! the mean of fractions; so many moves -/
theorem tr_updB {f : Nat → Int32} {k : Nat} {x : Int32} (h : ∀ j : Nat, -128 ≤ (f j).toInt ∧ (f j).toInt ≤ 127) : ∀ j : Nat, -128 ≤ (upd f k (vp_nar .byte x) j).toInt ∧ (upd f k (vp_nar .byte x) j).toInt ≤ 127 := by
  intro j
  show -128 ≤ (if j = k then vp_nar .byte x else f j).toInt ∧ (if j = k then vp_nar .byte x else f j).toInt ≤ 127
  split
  · rw [vp_nar_byte, Int8.toInt_toInt32]
    have h1 := Int8.le_toInt x.toInt8
    have h2 := Int8.toInt_le x.toInt8
    have e1 : Int8.maxValue.toInt = 127 := by decide
    have e2 : Int8.minValue.toInt = -128 := by decide
    omega
  · exact h j
def GG (a b x y : Int) : Prop := ∀ e : Int, e ∣ a → e ∣ b → e ∣ x ∧ e ∣ y
theorem GG_start {a b : Int} : GG a b a b := fun _ h1 h2 => ⟨h1, h2⟩
theorem GG_next {a b : Int} {x y z : Int64} (h : GG a b x.toInt y.toInt) (hz : z = x - x / y * y) (hy : ¬ y = 0) : GG a b y.toInt z.toInt := by
  obtain ⟨q, hq, _⟩ := tl_rem hz hy
  intro e h1 h2
  obtain ⟨a1, a2⟩ := h e h1 h2
  refine ⟨a2, ?_⟩
  have : z.toInt = x.toInt - q * y.toInt := by omega
  rw [this]
  exact Int.dvd_sub a1 (Int.dvd_mul_of_dvd_right a2)
theorem lcm_step {b l d L x : Int} (hb : 0 < b) (hl : 0 < l) (hd : 0 < d) (d1 : d ∣ b) (d2 : d ∣ l) (dg : ∀ e : Int, e ∣ b → e ∣ l → e ∣ d) (hL : 0 ≤ L) (hbL : b ∣ L) (hlL : l ∣ L) (hx : x * d = b) : x * l ∣ L := by
  obtain ⟨B, rfl⟩ := Int.eq_ofNat_of_zero_le (show 0 ≤ b by omega)
  obtain ⟨M, rfl⟩ := Int.eq_ofNat_of_zero_le (show 0 ≤ l by omega)
  obtain ⟨E, rfl⟩ := Int.eq_ofNat_of_zero_le (show 0 ≤ d by omega)
  obtain ⟨N, rfl⟩ := Int.eq_ofNat_of_zero_le hL
  have hx0 : 0 ≤ x := Int.not_lt.mp fun z => by
    have := Int.mul_le_mul_of_nonneg_right (show x ≤ -1 by omega) (show 0 ≤ (E : Int) by omega)
    omega
  obtain ⟨X, rfl⟩ := Int.eq_ofNat_of_zero_le hx0
  have e1 : E ∣ Nat.gcd B M := Nat.dvd_gcd (Int.natCast_dvd_natCast.mp d1) (Int.natCast_dvd_natCast.mp d2)
  have e2 : Nat.gcd B M ∣ E := Int.natCast_dvd_natCast.mp (dg _ (Int.natCast_dvd_natCast.mpr (Nat.gcd_dvd_left B M)) (Int.natCast_dvd_natCast.mpr (Nat.gcd_dvd_right B M)))
  have e3 : E = Nat.gcd B M := Nat.dvd_antisymm e1 e2
  have hxn : X * E = B := by exact_mod_cast hx
  have h1 := Nat.gcd_mul_lcm B M
  have hE : 0 < E := by omega
  have h2 : X * M = Nat.lcm B M := by
    refine Nat.eq_of_mul_eq_mul_left hE ?_
    rw [← e3] at h1
    rw [h1, ← hxn]
    rw [← Nat.mul_assoc, Nat.mul_comm E X]
  have h3 : Nat.lcm B M ∣ N := Nat.lcm_dvd (Int.natCast_dvd_natCast.mp hbL) (Int.natCast_dvd_natCast.mp hlL)
  rw [← h2] at h3
  have := Int.natCast_dvd_natCast.mpr h3
  rw [Int.natCast_mul] at this
  exact this
section MN
variable {f : Nat → Int32} {bu bl : Nat → Int64}
/-- fractions that a mean can be made of -/
def MLO (f : Nat → Int32) (bu bl : Nat → Int64) (k : Nat) : Prop := (∃ L : Int, 0 < L ∧ L ≤ 1000000000000 ∧ ∀ i, i < wys f k → (bl (wtg f k i)).toInt ∣ L) ∧ ∀ i, i < wys f k → 0 < (bl (wtg f k i)).toInt ∧ 0 ≤ (bu (wtg f k i)).toInt ∧ (bu (wtg f k i)).toInt ≤ 127 * (bl (wtg f k i)).toInt
def MEI (f : Nat → Int32) (bl : Nat → Int64) (k i : Nat) (a b : Int) : Prop := 0 < b ∧ 0 ≤ a ∧ a ≤ 127 * (gw f k i * b) ∧ ∀ L : Int, 0 ≤ L → (∀ j, j < wys f k → (bl (wtg f k j)).toInt ∣ L) → b ∣ L
theorem MEI_zero {k : Nat} : MEI f bl k 0 0 1 := ⟨by decide, by decide, by show (0 : Int) ≤ 127 * (0 * 1); decide, fun L _ _ => Int.one_dvd L⟩
theorem MEI_start {k : Nat} {a b : Int} (ha : a = 0) (hb : b = 1) : MEI f bl k 0 a b := by subst ha hb; exact MEI_zero
theorem MEI_le {k i : Nat} {a b : Int} (hM : MLO f bu bl k) (h : MEI f bl k i a b) : b ≤ 1000000000000 := by
  obtain ⟨⟨L, h1, h2, h3⟩, _⟩ := hM
  have := Int.le_of_dvd h1 (h.2.2.2 L (by omega) h3)
  omega
theorem gw_in (hG : GS f) {k : Nat} (hk : k < 12) (h3 : (f (1 + k)).toInt = 3) : ∀ i, i ≤ wys f k → 0 ≤ gw f k i ∧ gw f k i ≤ 4 := by
  have mono : ∀ m i : Nat, i + m ≤ wys f k → 0 ≤ gw f k i ∧ gw f k i ≤ gw f k (i + m) := by
    intro m
    induction m with
    | zero =>
      intro i hi
      refine ⟨gw_nonneg _ (fun j hj => ?_), Int.le_refl _⟩
      have := (hG.1.2.2.2.1 k j hk (by unfold wys at hi; omega)).2
      omega
    | succ m ih =>
      intro i hi
      obtain ⟨a1, a2⟩ := ih i (by omega)
      have e : gw f k (i + (m + 1)) = gw f k (i + m) + (f (73 + 3 * k + (i + m))).toInt := rfl
      have := (hG.1.2.2.2.1 k (i + m) hk (by unfold wys at hi; omega)).2
      exact ⟨a1, by omega⟩
  intro i hi
  obtain ⟨a1, a2⟩ := mono (wys f k - i) i (by omega)
  rw [show i + (wys f k - i) = wys f k by omega] at a2
  have := hG.1.2.2.2.2.1 k hk h3
  exact ⟨a1, Int.le_trans a2 this⟩
theorem gw_ge1 (hG : GS f) {k : Nat} (hk : k < 12) (h3 : (f (1 + k)).toInt = 3) : 1 ≤ gw f k (wys f k) := by
  have h1 := hG.2 k hk (by omega)
  have hw := (hG.r.2.1 k hk).2.2.1
  obtain ⟨m, hm⟩ : ∃ m, wys f k = m + 1 := ⟨wys f k - 1, by unfold wys; omega⟩
  have h2 := (gw_in hG hk h3 m (by omega)).1
  rw [hm]
  show 1 ≤ gw f k m + (f (73 + 3 * k + m)).toInt
  have := (hG.1.2.2.2.1 k m hk (by unfold wys at hm; omega)).2
  omega
/-- one way more -/
theorem MEI_next (hG : GS f) {k i i2 : Nat} (hk : k < 12) (h3 : (f (1 + k)).toInt = 3) (hM : MLO f bu bl k) {a b : Int64} (h : MEI f bl k i a.toInt b.toInt) (hi : i < wys f k) {t x : Int32} {w l d ld m1 wu bd m2 s l2 b2 u : Int64} (ht : t = f (37 + 3 * k + i)) (hx : x = f (73 + 3 * k + i)) (hw : w = x.toInt64) (hl : l = bl t.toInt.toNat) (hu : u = bu t.toInt.toNat)
    (hd : ¬ d.toInt = 0 ∧ d.toInt ∣ b.toInt ∧ d.toInt ∣ l.toInt ∧ (0 ≤ b.toInt → 0 < d.toInt) ∧ ∀ e : Int, e ∣ b.toInt → e ∣ l.toInt → e ∣ d.toInt) (h1 : ld = l / d) (h2 : m1 = a * ld) (h4 : wu = w * u) (h5 : bd = b / d) (h6 : m2 = wu * bd) (h7 : s = m1 + m2) (h8 : b2 = bd * l2) (hl2 : l2 = l) (hi2 : i2 = i + 1) : MEI f bl k i2 s.toInt b2.toInt := by
  subst hi2 hl2
  have et : wtg f k i = t.toInt.toNat := by unfold wtg; rw [← ht]
  obtain ⟨c1, c2, c3⟩ := hM.2 i hi
  rw [et, ← hl] at c1
  rw [et, ← hu] at c2
  rw [et, ← hl, ← hu] at c3
  have hb := MEI_le hM h
  obtain ⟨a1, a2, a3, a4⟩ := h
  have hdp := hd.2.2.2.1 (by omega)
  obtain ⟨x1, x2, x3⟩ := tl_divx h1 hdp (by omega) hd.2.2.1
  obtain ⟨y1, y2, y3⟩ := tl_divx h5 hdp (by omega) hd.2.1
  have hwt : w.toInt = (f (73 + 3 * k + i)).toInt := by rw [tl_i2l hw, hx]
  have hw1 := (hG.1.2.2.2.1 k i hk (by unfold wys at hi; omega)).2
  have hw3 := ((hG.r.2.2 (3 * k + i) (by have := (hG.r.2.1 k hk).2.2.1; unfold wys at hi; omega)).2).2
  rw [← Nat.add_assoc] at hw3
  have hdv : ∀ L : Int, 0 ≤ L → (∀ j, j < wys f k → (bl (wtg f k j)).toInt ∣ L) → bd.toInt * l2.toInt ∣ L := fun L hL0 hL => lcm_step a1 c1 hdp hd.2.1 hd.2.2.1 hd.2.2.2.2 hL0 (a4 L hL0 hL) (by have := hL i hi; rw [et, ← hl] at this; exact this) y1
  have hbl : bd.toInt * l2.toInt ≤ 1000000000000 := by
    obtain ⟨⟨L, k1, k2, k3⟩, _⟩ := hM
    have := Int.le_of_dvd k1 (hdv L (by omega) k3)
    omega
  have hbd0 : 0 < bd.toInt := by
    refine Int.not_le.mp fun z => ?_
    have : bd.toInt = 0 := by omega
    rw [this, Int.zero_mul] at y1
    omega
  have hld0 : 0 ≤ ld.toInt := x2
  have hbl0 : 0 < bd.toInt * l2.toInt := Int.mul_pos hbd0 c1
  have eb2 : b2.toInt = bd.toInt * l2.toInt := by rw [h8]; exact tl_mul (by omega) (by omega)
  -- b * ld = bd * l
  have ecross : b.toInt * ld.toInt = bd.toInt * l2.toInt := by rw [← y1, ← x1]; grind
  have hgw := gw_in hG hk h3 i (by omega)
  have hgw2 := gw_in hG hk h3 (i + 1) (by omega)
  have egw : gw f k (i + 1) = gw f k i + w.toInt := by rw [hwt]; rfl
  -- a * ld
  have b1 : a.toInt * ld.toInt ≤ 127 * (gw f k i * b.toInt) * ld.toInt := Int.mul_le_mul_of_nonneg_right a3 hld0
  have b1' : 127 * (gw f k i * b.toInt) * ld.toInt = 127 * (gw f k i * (bd.toInt * l2.toInt)) := by rw [← ecross]; grind
  have b1n : 0 ≤ a.toInt * ld.toInt := Int.mul_nonneg a2 hld0
  have b1g : gw f k i * (bd.toInt * l2.toInt) ≤ 4 * 1000000000000 := Int.mul_le_mul hgw.2 hbl (by omega) (by omega)
  have em1 : m1.toInt = a.toInt * ld.toInt := by rw [h2]; exact tl_mul (by omega) (by omega)
  -- w * u * bd
  have hl2le : l2.toInt ≤ bd.toInt * l2.toInt := by
    have := Int.mul_le_mul_of_nonneg_right (show 1 ≤ bd.toInt by omega) (show 0 ≤ l2.toInt by omega)
    omega
  have g1 : w.toInt * u.toInt ≤ 3 * (127 * l2.toInt) := Int.mul_le_mul (by omega) c3 c2 (by omega)
  have g1n : 0 ≤ w.toInt * u.toInt := Int.mul_nonneg (by omega) c2
  have ewu : wu.toInt = w.toInt * u.toInt := by rw [h4]; exact tl_mul (by omega) (by omega)
  have g2 : wu.toInt * bd.toInt ≤ w.toInt * (127 * l2.toInt) * bd.toInt := by
    rw [ewu]
    exact Int.mul_le_mul_of_nonneg_right (Int.mul_le_mul_of_nonneg_left c3 (by omega)) (by omega)
  have g2' : w.toInt * (127 * l2.toInt) * bd.toInt = 127 * (w.toInt * (bd.toInt * l2.toInt)) := by grind
  have g2n : 0 ≤ wu.toInt * bd.toInt := Int.mul_nonneg (by omega) (by omega)
  have g2g : w.toInt * (bd.toInt * l2.toInt) ≤ 3 * 1000000000000 := Int.mul_le_mul (by omega) hbl (by omega) (by omega)
  have em2 : m2.toInt = wu.toInt * bd.toInt := by rw [h6]; exact tl_mul (by omega) (by omega)
  have es : s.toInt = m1.toInt + m2.toInt := by rw [h7]; exact tl_add (by omega) (by omega)
  refine ⟨by omega, by omega, ?_, fun L hL0 hL => by rw [eb2]; exact hdv L hL0 hL⟩
  rw [egw, eb2, Int.add_mul]
  omega
/-- what the mean lays -/
def MEA (f : Nat → Int32) (bl u l u' l' : Nat → Int64) (k : Nat) : Prop := (∀ j, j ≠ k → u' j = u j ∧ l' j = l j) ∧ 0 < (l' k).toInt ∧ 0 ≤ (u' k).toInt ∧ (u' k).toInt ≤ 127 * (l' k).toInt ∧ ∀ L : Int, 0 ≤ L → (∀ j, j < wys f k → (bl (wtg f k j)).toInt ∣ L) → (l' k).toInt ∣ 12 * L
theorem MEI_wt (hG : GS f) {k i : Nat} (hk : k < 12) (h3 : (f (1 + k)).toInt = 3) (hM : MLO f bu bl k) {a b : Int} {bb w m : Int64} {x : Int32} (h : MEI f bl k i a b) (hbb : bb.toInt = b) (hx : x.toInt = gw f k (wys f k)) (hw : w = x.toInt64) (hm : m = bb * w) : m.toInt = b * gw f k (wys f k) ∧ 0 < m.toInt := by
  have h1 := gw_in hG hk h3 (wys f k) (Nat.le_refl _)
  have h2 := gw_ge1 hG hk h3
  have hb := MEI_le hM h
  have h4 := h.1
  have ew : w.toInt = gw f k (wys f k) := by rw [tl_i2l hw, hx]
  have b1 : b * gw f k (wys f k) ≤ 1000000000000 * 4 := Int.mul_le_mul hb h1.2 h1.1 (by omega)
  have b2 : 0 < b * gw f k (wys f k) := Int.mul_pos h4 (by omega)
  have e : m.toInt = b * gw f k (wys f k) := by rw [hm, tl_mul (by rw [hbb, ew]; omega) (by rw [hbb, ew]; omega), hbb, ew]
  exact ⟨e, by omega⟩
theorem MEA_of (hG : GS f) {k i : Nat} (hk : k < 12) (h3 : (f (1 + k)).toInt = 3) {a b m : Int} {u l u' l' : Nat → Int64} (h : MEI f bl k i a b) (hi : i = wys f k) (hm : m = b * gw f k (wys f k)) (hL : LYS u l u' l' k a m) : MEA f bl u l u' l' k := by
  subst hi hm
  obtain ⟨a1, a2, a3, a4⟩ := h
  obtain ⟨x1, x2, x3, x4, x5, x6⟩ := hL.2 a2
  have h1 := gw_in hG hk h3 (wys f k) (Nat.le_refl _)
  have h2 := gw_ge1 hG hk h3
  have hp : 0 < b * gw f k (wys f k) := Int.mul_pos a1 (by omega)
  refine ⟨hL.1, x2, x4, ?_, fun L hL0 hLd => ?_⟩
  · refine Int.le_of_mul_le_mul_right ?_ hp
    rw [x1]
    have := Int.mul_le_mul_of_nonneg_left a3 (show 0 ≤ (l' k).toInt by omega)
    have e : (l' k).toInt * (127 * (gw f k (wys f k) * b)) = 127 * (l' k).toInt * (b * gw f k (wys f k)) := by grind
    omega
  · obtain ⟨q, hq⟩ := a4 L hL0 hLd
    have hW : gw f k (wys f k) ∣ 12 := by
      rcases (show gw f k (wys f k) = 1 ∨ gw f k (wys f k) = 2 ∨ gw f k (wys f k) = 3 ∨ gw f k (wys f k) = 4 by omega) with z | z | z | z <;> rw [z] <;> decide
    obtain ⟨r, hr⟩ := hW
    refine Int.dvd_trans x6 ⟨q * r, ?_⟩
    rw [hr, hq]; grind
def WIN (bu bl : Nat → Int64) (n : Nat) (L : Int) : Prop := ∀ t, t < n → 0 < (bl t).toInt ∧ (bl t).toInt ∣ L ∧ 0 ≤ (bu t).toInt ∧ (bu t).toInt ≤ 127 * (bl t).toInt
theorem pow12 {i : Nat} (h : i ≤ 8) : 0 < (12 : Int) ^ i ∧ (12 : Int) ^ i ≤ 1000000000000 := by
  rcases (show i = 0 ∨ i = 1 ∨ i = 2 ∨ i = 3 ∨ i = 4 ∨ i = 5 ∨ i = 6 ∨ i = 7 ∨ i = 8 by omega) with rfl | rfl | rfl | rfl | rfl | rfl | rfl | rfl | rfl <;> decide
theorem WIN_zero {L : Int} : WIN bu bl 0 L := fun t h => absurd h (by omega)
theorem WIN_MLO (hG : GS f) {k i : Nat} (hk : k < 12) (hi : i ≤ 8) (h : WIN bu bl (f 0).toInt.toNat ((12 : Int) ^ i)) : MLO f bu bl k := by
  have hp := pow12 hi
  have ht : ∀ j, j < wys f k → wtg f k j < (f 0).toInt.toNat := fun j hj => by have := (gs_w1 hG hk hj).2.2.1; omega
  exact ⟨⟨_, hp.1, hp.2, fun j hj => (h _ (ht j hj)).2.1⟩, fun j hj => by obtain ⟨a, _, b, c⟩ := h _ (ht j hj); exact ⟨a, b, c⟩⟩
theorem WIN_put {u l u' l' : Nat → Int64} {k k2 : Nat} {L : Int} (h : WIN u l k L) (ho : ∀ j, j ≠ k → u' j = u j ∧ l' j = l j) (hk : 0 < (l' k).toInt ∧ (l' k).toInt ∣ L ∧ 0 ≤ (u' k).toInt ∧ (u' k).toInt ≤ 127 * (l' k).toInt) (e : k2 = k + 1) : WIN u' l' k2 L := by
  subst e
  intro t ht
  by_cases q : t = k
  · subst q; exact hk
  · rw [(ho t q).1, (ho t q).2]; exact h t (by omega)
theorem WIN_mean (hG : GS f) {u l u' l' : Nat → Int64} {k k2 i i2 : Nat} (hk : k < 12) (hb : WIN bu bl (f 0).toInt.toNat ((12 : Int) ^ i)) (h : WIN u l k ((12 : Int) ^ i2)) (hm : MEA f bl u l u' l' k) (hi : i ≤ 8) (ei : i2 = i + 1) (e : k2 = k + 1) : WIN u' l' k2 ((12 : Int) ^ i2) := by
  subst ei
  refine WIN_put h hm.1 ⟨hm.2.1, ?_, hm.2.2.1, hm.2.2.2.1⟩ e
  have := hm.2.2.2.2 ((12 : Int) ^ i) (by have := pow12 hi; omega) (fun j hj => (hb _ (by have := (gs_w1 hG hk hj).2.2.1; omega)).2.1)
  rw [Int.pow_succ, Int.mul_comm]; exact this
/-- what a choice lays -/
def CHP (n : Nat) (bu bl u l u' l' : Nat → Int64) (k : Nat) : Prop := (∀ j, j ≠ k → u' j = u j ∧ l' j = l j) ∧ ∃ t, t < n ∧ u' k = bu t ∧ l' k = bl t
theorem CHP_of {n : Nat} {u l u' l' : Nat → Int64} {k : Nat} {t : Nat} {x y : Int64} (ht : t < n) (hx : x = bu t) (hy : y = bl t) (hu : u' = fun j9 => if j9 = k then x else u j9) (hl : l' = fun j9 => if j9 = k then y else l j9) : CHP n bu bl u l u' l' k := by
  subst hu hl
  exact ⟨fun j hj => ⟨if_neg hj, if_neg hj⟩, t, ht, (if_pos rfl).trans hx, (if_pos rfl).trans hy⟩
theorem WIN_cho {n : Nat} {u l u' l' : Nat → Int64} {k k2 i i2 : Nat} (hb : WIN bu bl n ((12 : Int) ^ i)) (h : WIN u l k ((12 : Int) ^ i2)) (hm : CHP n bu bl u l u' l' k) (ei : i2 = i + 1) (e : k2 = k + 1) : WIN u' l' k2 ((12 : Int) ^ i2) := by
  subst ei
  obtain ⟨t, ht, e1, e2⟩ := hm.2
  obtain ⟨a, b, c, d⟩ := hb t ht
  refine WIN_put h hm.1 ⟨by rw [e2]; exact a, ?_, by rw [e1]; exact c, by rw [e1, e2]; exact d⟩ e
  rw [e2, Int.pow_succ]
  exact Int.dvd_mul_of_dvd_left b
theorem WIN_lay {u l u' l' : Nat → Int64} {k k2 : Nat} {L a b : Int} (h : WIN u l k L) (hL : LYS u l u' l' k a b) (hb : b = 1) (ha : 0 ≤ a ∧ a ≤ 9) (e : k2 = k + 1) : WIN u' l' k2 L := by
  subst hb
  obtain ⟨x1, x2, x3, x4, x5, _⟩ := hL.2 ha.1
  have e1 : (l' k).toInt = 1 := by omega
  exact WIN_put h hL.1 ⟨x2, by rw [e1]; exact Int.one_dvd L, x4, by omega⟩ e
theorem WIN_set {k k2 : Nat} {L : Int} {x y : Int64} {bu' bl' : Nat → Int64} (h : WIN bu bl k L) (hu : bu' = fun j9 => if j9 = k then x else bu j9) (hl : bl' = fun j9 => if j9 = k then y else bl j9) (hk : 0 < y.toInt ∧ y.toInt ∣ L ∧ 0 ≤ x.toInt ∧ x.toInt ≤ 127 * y.toInt) (e : k2 = k + 1) : WIN bu' bl' k2 L := by
  subst hu hl
  refine WIN_put h (fun j hj => ⟨if_neg hj, if_neg hj⟩) ?_ e
  show 0 < (if k = k then y else bl k).toInt ∧ (if k = k then y else bl k).toInt ∣ L ∧ 0 ≤ (if k = k then x else bu k).toInt ∧ (if k = k then x else bu k).toInt ≤ 127 * (if k = k then y else bl k).toInt
  rw [if_pos rfl, if_pos rfl]; exact hk
theorem WIN_copy {u l bu' bl' : Nat → Int64} {n k k2 : Nat} {L : Int} {x y : Int64} (hw : WIN u l n L) (h : WIN bu bl k L) (hx : x = u k) (hy : y = l k) (hu : bu' = fun j9 => if j9 = k then x else bu j9) (hl : bl' = fun j9 => if j9 = k then y else bl j9) (hk : k < n) (e : k2 = k + 1) : WIN bu' bl' k2 L := WIN_set h hu hl (by rw [hx, hy]; exact hw k hk) e
/-- the way chosen so far -/
def CHB (f : Nat → Int32) (k : Nat) (b : Int) (m : Nat) : Prop := (b < 0 → ∀ i : Nat, i < m → ¬ ((f (109 + k)).toInt < 0 ∨ (f (109 + k)).toInt = (i : Int))) ∧ b < (f 0).toInt
theorem CHB_zero (hG : GS f) {k : Nat} {b : Int} (hb : b = -1) : CHB f k b 0 := ⟨fun _ i h => absurd h (by omega), by have := hG.r.1; omega⟩
theorem CHB_skip {k m m2 : Nat} {b : Int} (h : CHB f k b m) (hq : ¬ ((f (109 + k)).toInt < 0 ∨ (f (109 + k)).toInt = (m : Int))) (e : m2 = m + 1) : CHB f k b m2 := by
  subst e
  refine ⟨fun z i hi => ?_, h.2⟩
  by_cases q : i = m
  · subst q; exact hq
  · exact h.1 z i (by omega)
theorem CHB_keep {k m m2 : Nat} {b : Int} (h : CHB f k b m) (hb : 0 ≤ b) : CHB f k b m2 := ⟨fun z => absurd z (by omega), h.2⟩
theorem CHB_set {k m : Nat} {t : Int} (ht : 0 ≤ t ∧ t < (f 0).toInt) : CHB f k t m := ⟨fun z => absurd z (by omega), ht.2⟩
theorem CHB_end (hG : GS f) {k m : Nat} {b : Int} (hk : k < 12) (hk0 : ¬ (f (1 + k)).toInt = 0) (h : CHB f k b m) (hm : (f (25 + k)).toInt ≤ (m : Int)) : 0 ≤ b ∧ b < (f 0).toInt := by
  refine ⟨Int.not_lt.mp fun z => ?_, h.2⟩
  have h1 := hG.2 k hk hk0
  have h2 := hG.1.2.2.2.2.2.1 k hk hk0
  by_cases q : (f (109 + k)).toInt < 0
  · exact h.1 z 0 (by omega) (Or.inl q)
  · exact h.1 z (f (109 + k)).toInt.toNat (by omega) (Or.inr (by omega))
theorem tl_cmpge {x y : Int64} {v : Int32} (hv : v = lg_cmp x y) (h : 0 ≤ v) : y.toInt ≤ x.toInt := by
  rw [hv] at h
  unfold lg_cmp at h
  by_cases q : x > y
  · have := Int64.lt_iff_toInt_lt.mp q; omega
  · rw [if_neg q] at h
    by_cases q2 : x = y
    · rw [q2]; omega
    · rw [if_neg q2] at h; exact absurd h (by decide)
theorem tl_cmpnlt {x y : Int64} {v : Int32} (hv : v = lg_cmp x y) (h : ¬ v < 0) : y.toInt ≤ x.toInt := tl_cmpge hv (Int32.not_lt.mp h)
theorem tr_irem {x y z : Int32} {n : Int} (hz : z = x - x / y * y) (hx : 0 ≤ x.toInt) (hy : 0 < y.toInt) (hn : y.toInt = n) : 0 ≤ z.toInt ∧ z.toInt < n := by
  have h1 := tr_any x
  have h2 := tr_any y
  have e1 : (x / y).toInt = x.toInt / y.toInt := by
    rw [Int32.toInt_div, Int.tdiv_eq_ediv_of_nonneg hx]
    have a1 := Int.ediv_nonneg hx (show 0 ≤ y.toInt by omega)
    have a2 := Int.ediv_le_self y.toInt hx
    exact tr_bmod (by omega) (by omega)
  have a3 := Int.mul_ediv_add_emod x.toInt y.toInt
  have a4 := Int.emod_nonneg x.toInt (show y.toInt ≠ 0 by omega)
  have a5 := Int.emod_lt_of_pos x.toInt hy
  have e2 : (x / y * y).toInt = y.toInt * (x.toInt / y.toInt) := by
    rw [Int32.toInt_mul, e1, Int.mul_comm]
    have a6 := Int.mul_nonneg (show 0 ≤ y.toInt by omega) (Int.ediv_nonneg hx (show 0 ≤ y.toInt by omega))
    exact tr_bmod (by omega) (by omega)
  have e3 : z.toInt = x.toInt - y.toInt * (x.toInt / y.toInt) := by
    rw [hz, Int32.toInt_sub, e2]
    exact tr_bmod (by omega) (by omega)
  omega
theorem tr_ushr8 {x v : Int32} (hv : v = (x.toUInt32 >>> ((8 : Int32).toUInt32 &&& Int32.toUInt32 31)).toInt32) : 0 ≤ v.toInt := by
  have e : (8 : Int32).toUInt32 &&& Int32.toUInt32 31 = 8 := by decide
  rw [hv, e]
  have h : (x.toUInt32 >>> 8).toNat < 2 ^ 31 := by
    rw [UInt32.toNat_shiftRight]
    have h1 := x.toUInt32.toNat_lt
    have : (8 : UInt32).toNat % 32 = 8 := by decide
    rw [this, Nat.shiftRight_eq_div_pow]
    omega
  show 0 ≤ (x.toUInt32 >>> 8).toBitVec.toInt
  rw [BitVec.toInt_eq_toNat_of_lt (by show 2 * (x.toUInt32 >>> 8).toNat < 2 ^ 32; omega)]
  omega
/-- told fractions -/
def TLS (bu bl : Nat → Int64) (n : Nat) : Prop := ∀ t, t < n → 0 < (bl t).toInt ∧ (bl t).toInt ≤ 127 ∧ 0 ≤ (bu t).toInt ∧ (bu t).toInt ≤ 127
theorem TLS_next {k k2 : Nat} {x y : Int64} {bu' bl' : Nat → Int64} (h : TLS bu bl k) (hu : bu' = fun j9 => if j9 = k then x else bu j9) (hl : bl' = fun j9 => if j9 = k then y else bl j9) (hk : 0 < y.toInt ∧ y.toInt ≤ 127 ∧ 0 ≤ x.toInt ∧ x.toInt ≤ 127) (e : k2 = k + 1) : TLS bu' bl' k2 := by
  subst hu hl e
  intro t ht
  show 0 < (if t = k then y else bl t).toInt ∧ (if t = k then y else bl t).toInt ≤ 127 ∧ 0 ≤ (if t = k then x else bu t).toInt ∧ (if t = k then x else bu t).toInt ≤ 127
  by_cases q : t = k
  · rw [if_pos q, if_pos q]; exact hk
  · rw [if_neg q, if_neg q]; exact h t (by omega)
theorem TLS_MLO (hG : GS f) {k : Nat} (hk : k < 12) (h : TLS bu bl (f 0).toInt.toNat) : MLO f bu bl k := by
  have ht : ∀ j, j < wys f k → wtg f k j < (f 0).toInt.toNat := fun j hj => by have := (gs_w1 hG hk hj).2.2.1; omega
  have h3 : wys f k ≤ 3 := by have := (hG.r.2.1 k hk).2.2.1; unfold wys; omega
  refine ⟨?_, fun j hj => by obtain ⟨a, b, c, d⟩ := h _ (ht j hj); exact ⟨a, c, by omega⟩⟩
  have key : ∀ m, m ≤ wys f k → ∃ L : Int, 0 < L ∧ L ≤ 127 ^ m ∧ ∀ j, j < m → (bl (wtg f k j)).toInt ∣ L := by
    intro m
    induction m with
    | zero => exact fun _ => ⟨1, by decide, by decide, fun j hj => absurd hj (by omega)⟩
    | succ m ih =>
      intro hm
      obtain ⟨L, a1, a2, a3⟩ := ih (by omega)
      obtain ⟨b1, b2, _, _⟩ := h _ (ht m (by omega))
      refine ⟨L * (bl (wtg f k m)).toInt, Int.mul_pos a1 b1, by rw [Int.pow_succ]; exact Int.mul_le_mul a2 b2 (by omega) (by omega), fun j hj => ?_⟩
      by_cases q : j = m
      · subst q; exact Int.dvd_mul_left _ _
      · exact Int.dvd_mul_of_dvd_left (a3 j (by omega))
  obtain ⟨L, a1, a2, a3⟩ := key (wys f k) (Nat.le_refl _)
  refine ⟨L, a1, Int.le_trans a2 ?_, a3⟩
  rcases (show wys f k = 0 ∨ wys f k = 1 ∨ wys f k = 2 ∨ wys f k = 3 by omega) with z | z | z | z <;> rw [z] <;> decide
end MN
