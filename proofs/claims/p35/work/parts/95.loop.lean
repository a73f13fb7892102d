theorem dL_law_23 : decode cL_law 23 = .ok (.iload 4, 2) := by decide +kernel
theorem dL_law_25 : decode cL_law 25 = .ok (.aload_n 0, 1) := by decide +kernel
theorem dL_law_26 : decode cL_law 26 = .ok (.arraylength, 1) := by decide +kernel
theorem dL_law_27 : decode cL_law 27 = .ok (.bipush 6, 2) := by decide +kernel
theorem dL_law_29 : decode cL_law 29 = .ok (.isub, 1) := by decide +kernel
theorem dL_law_30 : decode cL_law 30 = .ok (.if_icmp .gt 1260, 3) := by decide +kernel
theorem dL_law_33 : decode cL_law 33 = .ok (.aload_n 0, 1) := by decide +kernel
theorem dL_law_34 : decode cL_law 34 = .ok (.iload 4, 2) := by decide +kernel
theorem dL_law_36 : decode cL_law 36 = .ok (.iaload, 1) := by decide +kernel
theorem dL_law_37 : decode cL_law 37 = .ok (.bipush 63, 2) := by decide +kernel
theorem dL_law_39 : decode cL_law 39 = .ok (.iand, 1) := by decide +kernel
theorem dL_law_40 : decode cL_law 40 = .ok (.tableswitch 1244 0 34 #[156, 229, 254, 267, 280, 320, 372, 412, 437, 462, 487, 527, 540, 553, 590, 615, 664, 701, 753, 805, 842, 855, 880, 920, 957, 982, 995, 1008, 1057, 1118, 1131, 1156, 1169, 1194, 1219], 156) := by decide +kernel
theorem dL_law_1284 : decode cL_law 1284 = .ok (.iinc 4 6, 3) := by decide +kernel
theorem dL_law_1287 : decode cL_law 1287 = .ok (.goto (-1264), 3) := by decide +kernel
theorem dL_law_1290 : decode cL_law 1290 = .ok (.iconst 1, 1) := by decide +kernel
theorem dL_law_1291 : decode cL_law 1291 = .ok (.ireturn, 1) := by decide +kernel
set_option maxHeartbeats 4000000 in
set_option maxRecDepth 100000 in
theorem law_loop {p : Program} {l : Launch} {e : Env} {s : State} {m : MethodId} {below : List Frame} {meth : Method} {c : Code} {b L : Nat} {xs : Nat → Int32} {A : Nat → Prop} {D : va_G} {g : Nat → ClassId} {kn : Nat} {kf : Nat → Int32} {x mm oa tp n d x_images x_kept rd st tl rg sv oc x_tried lf x_sw sww wi tp_bytes n_kind n_pay n_name n_ways n_held n_targets n_weights d_kind d_pay d_name d_ways d_held d_targets d_weights i0 i1 i0_kind i0_pay i0_name i0_ways i0_held i0_targets i0_weights i1_kind i1_pay i1_name i1_ways i1_held i1_targets i1_weights rd_kindWords st_what st_node st_index st_before tl_bytes co sv_keep sv_scaled eq co_place eq_rows eq_right oc_plan ow ol oc_reach oc_ringBits ow_part ol_part lf_part sww_part wi_part m_s m_spare m_kept m_undone m_triedWay m_isKept m_tape m_letters m_choice m_row m_up m_low m_m m_bestUp m_bestLow m_replyUp m_replyLow m_worthUp m_worthLow m_bestWay m_told : Nat} {rr rm : Nat → Nat} (hL : L ≤ 3072) (hst : l.stackTraces = false) (C0 : lw_At p s m meth c b L xs) (hA : ∀ q : Nat, s.heap.size ≤ q → A q) (hAl : ∀ q : Nat, A q → s.heap.size ≤ q) (hbA : ¬ A b) (hK : va_K D vwCl (TY g) s) (hZ : ZK kn kf A s s.heap) (hZT : ZT A s s.heap) : ∀ (nf : Nat) (ia : Int32) (cells slots : Nat) (H : Heap) (locs : List Loc) (ls : Array Slot), 0 ≤ ia.toInt → (L : Int) - ia.toInt < 6 * (nf : Int) → ia.toInt ≤ (L : Int) → cells + nf ≤ 600000 → slots + 6 * nf ≤ 7000000 → LI D g A H x mm oa tp n d x_images x_kept rd st tl rg sv oc x_tried lf x_sw sww wi tp_bytes n_kind n_pay n_name n_ways n_held n_targets n_weights d_kind d_pay d_name d_ways d_held d_targets d_weights i0 i1 i0_kind i0_pay i0_name i0_ways i0_held i0_targets i0_weights i1_kind i1_pay i1_name i1_ways i1_held i1_targets i1_weights rd_kindWords st_what st_node st_index st_before tl_bytes co sv_keep sv_scaled eq co_place eq_rows eq_right oc_plan ow ol oc_reach oc_ringBits ow_part ol_part lf_part sww_part wi_part m_s m_spare m_kept m_undone m_triedWay m_isKept m_tape m_letters m_choice m_row m_up m_low m_m m_bestUp m_bestLow m_replyUp m_replyLow m_worthUp m_worthLow m_bestWay m_told rr rm → va_S A s.heap H locs → lv_has ls 8 [(4, .int ia), (3, .ref oa), (2, .ref mm), (1, .ref x), (0, .ref b)] → W p l e room_1 s m #[Value.ref b] below meth c H locs cells slots (lw_Z below #[Value.ref b] s) (F0 m 23 ls []) := by
  intro nf
  induction nf with
  | zero =>
    intro ia cells slots H locs ls hi0 hi1 hi2 hc1 hc2 hI hS hl
    exfalso; omega
  | succ nf ih =>
      intro ia cells slots H locs ls hi0 hi1 hi2 hc1 hc2 hI hS hl
      obtain ⟨hx, hb, hr, hml, hown, hts0, hX, hbl, hlocks, hgv⟩ := id C0
      have hts : ∀ w ∈ wsL_law, w.before _ s = true := fun w h => hts0 w (wsL_law_in w h)
      have h_ia : 0 ≤ (ia : Int32).toInt ∧ (ia : Int32).toInt ≤ 3072 := by omega
      refine lv_iload hx hb dL_law_23 (lv_at hl 0 rfl) ?_
      refine lv_aload_n hx hb dL_law_25 rfl (lv_at hl 4 rfl) ?_
      refine va_slen hx hb hX hbl hbA hS dL_law_26 ?_
      refine lv_topi (fun v_128182 v_128182_e => ?_)
      have q_v_128182 : v_128182.toInt = (L : Int) := by rw [v_128182_e]; exact tr_ofL hL
      have h_v_128182 : 0 ≤ (v_128182 : Int32).toInt ∧ (v_128182 : Int32).toInt ≤ 3072 := by omega
      refine lv_bipush (v := 6) hx hb dL_law_27 (by decide) ?_
      refine lv_isub hx hb dL_law_29 ?_
      refine lv_topi (fun v_128183 v_128183_e => ?_)
      have h_v_128183 : (-6) ≤ (v_128183 : Int32).toInt ∧ (v_128183 : Int32).toInt ≤ 3066 := by rw [v_128183_e]; exact tr_sub h_v_128182 (⟨by decide, by decide⟩ : 6 ≤ (6 : Int32).toInt ∧ (6 : Int32).toInt ≤ 6) (by decide) (by decide) (by decide) (by decide)
      have q_v_128183 : v_128183.toInt = v_128182.toInt - 6 := by rw [v_128183_e]; exact tr_subE h_v_128182 (⟨by decide, by decide⟩ : 6 ≤ (6 : Int32).toInt ∧ (6 : Int32).toInt ≤ 6) (by decide) (by decide)
      refine lv_icmp_gt (tgt := 1290) hx hb dL_law_30 (by decide) (fun c_128184 => ?_) (fun c_128184 => ?_)
      · skip
        have c_128184_i := Int32.lt_iff_toInt_lt.mp c_128184
        refine lv_iconst (v := 1) hx hb dL_law_1290 (by decide) ?_
        refine va_forget (fun q hq => hAl _ (hS.2.2 q hq)) ?_
        refine W.widen (k := 601024) (n := 7293034) (by omega) (by omega) ?_
        exact lw_ret hx hb hr hlocks dL_law_1291
      · skip
        have c_128184_i := Int32.le_iff_toInt_le.mp (Int32.not_lt.mp c_128184)
        have c_128184_i := Int32.le_iff_toInt_le.mp (Int32.not_lt.mp c_128184)
        have h_128185 : 0 ≤ (ia : Int32).toInt ∧ (ia : Int32).toInt ≤ 3066 := by have q1 := h_ia; have q2 := h_v_128183; omega
        have h_128186 : 0 ≤ (v_128183 : Int32).toInt ∧ (v_128183 : Int32).toInt ≤ 3066 := by have q1 := h_ia; have q2 := h_v_128183; omega
        have h_ia : 0 ≤ (ia : Int32).toInt ∧ (ia : Int32).toInt ≤ 3066 := by omega
        have kk : ∀ (H : Heap) (locs : List Loc) (ls : Array Slot), LI D g A H x mm oa tp n d x_images x_kept rd st tl rg sv oc x_tried lf x_sw sww wi tp_bytes n_kind n_pay n_name n_ways n_held n_targets n_weights d_kind d_pay d_name d_ways d_held d_targets d_weights i0 i1 i0_kind i0_pay i0_name i0_ways i0_held i0_targets i0_weights i1_kind i1_pay i1_name i1_ways i1_held i1_targets i1_weights rd_kindWords st_what st_node st_index st_before tl_bytes co sv_keep sv_scaled eq co_place eq_rows eq_right oc_plan ow ol oc_reach oc_ringBits ow_part ol_part lf_part sww_part wi_part m_s m_spare m_kept m_undone m_triedWay m_isKept m_tape m_letters m_choice m_row m_up m_low m_m m_bestUp m_bestLow m_replyUp m_replyLow m_worthUp m_worthLow m_bestWay m_told rr rm → va_S A s.heap H locs → lv_has ls 8 [(4, .int ia), (3, .ref oa), (2, .ref mm), (1, .ref x), (0, .ref b)] → W p l e room_1 s m #[Value.ref b] below meth c H locs (cells + 1) (slots + 6) (lw_Z below #[Value.ref b] s) (F0 m 1284 ls []) := by
          intro H locs ls hI hS hl
          obtain ⟨v_128187, v_128187_e⟩ : ∃ y : Int32, y = ia + Int32.ofInt 6 := ⟨_, rfl⟩
          have h_v_128187 : 6 ≤ (v_128187 : Int32).toInt ∧ (v_128187 : Int32).toInt ≤ 3072 := by rw [v_128187_e]; exact tr_add h_ia (⟨by decide, by decide⟩ : 6 ≤ (Int32.ofInt 6 : Int32).toInt ∧ (Int32.ofInt 6 : Int32).toInt ≤ 6) (by decide) (by decide) (by decide) (by decide)
          have q_v_128187 : v_128187.toInt = ia.toInt + 6 := by rw [v_128187_e]; exact tr_addE h_ia (⟨by decide, by decide⟩ : 6 ≤ (Int32.ofInt 6 : Int32).toInt ∧ (Int32.ofInt 6 : Int32).toInt ≤ 6) (by decide) (by decide)
          refine lv_iinc (v := v_128187) (lv' := [(4, .int v_128187), (3, .ref oa), (2, .ref mm), (1, .ref x), (0, .ref b)]) hx hb dL_law_1284 hl (k := 0) rfl v_128187_e.symm (by decide) rfl (fun ls hl => ?_)
          refine lv_goto (tgt := 23) hx hb dL_law_1287 (by decide) ?_
          exact ih v_128187 (cells + 1) (slots + 6) H _ ls (by omega) (by omega) (by omega) (by omega) (by omega) hI hS (lv_sub hl [0, 1, 2, 3, 4] rfl)
        refine lv_aload_n hx hb dL_law_33 rfl (lv_at hl 4 rfl) ?_
        refine lv_iload hx hb dL_law_34 (lv_at hl 0 rfl) ?_
        refine va_sld hx hb hX hbl hbA hS (tr_inL (by omega) (by omega)) dL_law_36 ?_
        refine lv_topi (fun v_128188 v_128188_e => ?_)
        refine lv_bipush (v := 63) hx hb dL_law_37 (by decide) ?_
        refine lv_iand hx hb dL_law_39 ?_
        refine lv_topi (fun v_128189 v_128189_e => ?_)
        by_cases hin : vp_in v_128189 35
        · clear v_128189_e
          obtain ⟨j, hj, rfl⟩ := vp_in_of hin (by decide)
          rcases (show j = 0 ∨ j = 1 ∨ j = 2 ∨ j = 3 ∨ j = 4 ∨ j = 5 ∨ j = 6 ∨ j = 7 ∨ j = 8 ∨ j = 9 ∨ j = 10 ∨ j = 11 ∨ j = 12 ∨ j = 13 ∨ j = 14 ∨ j = 15 ∨ j = 16 ∨ j = 17 ∨ j = 18 ∨ j = 19 ∨ j = 20 ∨ j = 21 ∨ j = 22 ∨ j = 23 ∨ j = 24 ∨ j = 25 ∨ j = 26 ∨ j = 27 ∨ j = 28 ∨ j = 29 ∨ j = 30 ∨ j = 31 ∨ j = 32 ∨ j = 33 ∨ j = 34 by omega) with rfl | rfl | rfl | rfl | rfl | rfl | rfl | rfl | rfl | rfl | rfl | rfl | rfl | rfl | rfl | rfl | rfl | rfl | rfl | rfl | rfl | rfl | rfl | rfl | rfl | rfl | rfl | rfl | rfl | rfl | rfl | rfl | rfl | rfl | rfl
          · refine tz_i (y := 0) (by decide) ?_
            refine lv_tableIn (off := 156) (tgt := 196) hx hb dL_law_40 (by decide) (by decide) (by decide) (by decide) ?_
            exact law_case_0 hL hst C0 hA hAl hbA hK hZ hZT (by omega) (by omega) (by omega) (by omega) kk H _ ls hI hS (lv_sub hl [0, 1, 2, 3, 4] rfl)
          · refine tz_i (y := 1) (by decide) ?_
            refine lv_tableIn (off := 229) (tgt := 269) hx hb dL_law_40 (by decide) (by decide) (by decide) (by decide) ?_
            exact law_case_1 hL hst C0 hA hAl hbA hK hZ hZT (by omega) (by omega) (by omega) (by omega) kk H _ ls hI hS (lv_sub hl [0, 1, 2, 3, 4] rfl)
          · refine tz_i (y := 2) (by decide) ?_
            refine lv_tableIn (off := 254) (tgt := 294) hx hb dL_law_40 (by decide) (by decide) (by decide) (by decide) ?_
            exact law_case_2 hL hst C0 hA hAl hbA hK hZ hZT (by omega) (by omega) (by omega) (by omega) kk H _ ls hI hS (lv_sub hl [0, 1, 2, 3, 4] rfl)
          · refine tz_i (y := 3) (by decide) ?_
            refine lv_tableIn (off := 267) (tgt := 307) hx hb dL_law_40 (by decide) (by decide) (by decide) (by decide) ?_
            exact law_case_3 hL hst C0 hA hAl hbA hK hZ hZT (by omega) (by omega) (by omega) (by omega) kk H _ ls hI hS (lv_sub hl [0, 1, 2, 3, 4] rfl)
          · refine tz_i (y := 4) (by decide) ?_
            refine lv_tableIn (off := 280) (tgt := 320) hx hb dL_law_40 (by decide) (by decide) (by decide) (by decide) ?_
            exact law_case_4 hL hst C0 hA hAl hbA hK hZ hZT (by omega) (by omega) (by omega) (by omega) kk H _ ls hI hS (lv_sub hl [0, 1, 2, 3, 4] rfl)
          · refine tz_i (y := 5) (by decide) ?_
            refine lv_tableIn (off := 320) (tgt := 360) hx hb dL_law_40 (by decide) (by decide) (by decide) (by decide) ?_
            exact law_case_5 hL hst C0 hA hAl hbA hK hZ hZT (by omega) (by omega) (by omega) (by omega) kk H _ ls hI hS (lv_sub hl [0, 1, 2, 3, 4] rfl)
          · refine tz_i (y := 6) (by decide) ?_
            refine lv_tableIn (off := 372) (tgt := 412) hx hb dL_law_40 (by decide) (by decide) (by decide) (by decide) ?_
            exact law_case_6 hL hst C0 hA hAl hbA hK hZ hZT (by omega) (by omega) (by omega) (by omega) kk H _ ls hI hS (lv_sub hl [0, 1, 2, 3, 4] rfl)
          · refine tz_i (y := 7) (by decide) ?_
            refine lv_tableIn (off := 412) (tgt := 452) hx hb dL_law_40 (by decide) (by decide) (by decide) (by decide) ?_
            exact law_case_7 hL hst C0 hA hAl hbA hK hZ hZT (by omega) (by omega) (by omega) (by omega) kk H _ ls hI hS (lv_sub hl [0, 1, 2, 3, 4] rfl)
          · refine tz_i (y := 8) (by decide) ?_
            refine lv_tableIn (off := 437) (tgt := 477) hx hb dL_law_40 (by decide) (by decide) (by decide) (by decide) ?_
            exact law_case_8 hL hst C0 hA hAl hbA hK hZ hZT (by omega) (by omega) (by omega) (by omega) kk H _ ls hI hS (lv_sub hl [0, 1, 2, 3, 4] rfl)
          · refine tz_i (y := 9) (by decide) ?_
            refine lv_tableIn (off := 462) (tgt := 502) hx hb dL_law_40 (by decide) (by decide) (by decide) (by decide) ?_
            exact law_case_9 hL hst C0 hA hAl hbA hK hZ hZT (by omega) (by omega) (by omega) (by omega) kk H _ ls hI hS (lv_sub hl [0, 1, 2, 3, 4] rfl)
          · refine tz_i (y := 10) (by decide) ?_
            refine lv_tableIn (off := 487) (tgt := 527) hx hb dL_law_40 (by decide) (by decide) (by decide) (by decide) ?_
            exact law_case_10 hL hst C0 hA hAl hbA hK hZ hZT (by omega) (by omega) (by omega) (by omega) kk H _ ls hI hS (lv_sub hl [0, 1, 2, 3, 4] rfl)
          · refine tz_i (y := 11) (by decide) ?_
            refine lv_tableIn (off := 527) (tgt := 567) hx hb dL_law_40 (by decide) (by decide) (by decide) (by decide) ?_
            exact law_case_11 hL hst C0 hA hAl hbA hK hZ hZT (by omega) (by omega) (by omega) (by omega) kk H _ ls hI hS (lv_sub hl [0, 1, 2, 3, 4] rfl)
          · refine tz_i (y := 12) (by decide) ?_
            refine lv_tableIn (off := 540) (tgt := 580) hx hb dL_law_40 (by decide) (by decide) (by decide) (by decide) ?_
            exact law_case_12 hL hst C0 hA hAl hbA hK hZ hZT (by omega) (by omega) (by omega) (by omega) kk H _ ls hI hS (lv_sub hl [0, 1, 2, 3, 4] rfl)
          · refine tz_i (y := 13) (by decide) ?_
            refine lv_tableIn (off := 553) (tgt := 593) hx hb dL_law_40 (by decide) (by decide) (by decide) (by decide) ?_
            exact law_case_13 hL hst C0 hA hAl hbA hK hZ hZT (by omega) (by omega) (by omega) (by omega) kk H _ ls hI hS (lv_sub hl [0, 1, 2, 3, 4] rfl)
          · refine tz_i (y := 14) (by decide) ?_
            refine lv_tableIn (off := 590) (tgt := 630) hx hb dL_law_40 (by decide) (by decide) (by decide) (by decide) ?_
            exact law_case_14 hL hst C0 hA hAl hbA hK hZ hZT (by omega) (by omega) (by omega) (by omega) kk H _ ls hI hS (lv_sub hl [0, 1, 2, 3, 4] rfl)
          · refine tz_i (y := 15) (by decide) ?_
            refine lv_tableIn (off := 615) (tgt := 655) hx hb dL_law_40 (by decide) (by decide) (by decide) (by decide) ?_
            exact law_case_15 hL hst C0 hA hAl hbA hK hZ hZT (by omega) (by omega) (by omega) (by omega) kk H _ ls hI hS (lv_sub hl [0, 1, 2, 3, 4] rfl)
          · refine tz_i (y := 16) (by decide) ?_
            refine lv_tableIn (off := 664) (tgt := 704) hx hb dL_law_40 (by decide) (by decide) (by decide) (by decide) ?_
            exact law_case_16 hL hst C0 hA hAl hbA hK hZ hZT (by omega) (by omega) (by omega) (by omega) kk H _ ls hI hS (lv_sub hl [0, 1, 2, 3, 4] rfl)
          · refine tz_i (y := 17) (by decide) ?_
            refine lv_tableIn (off := 701) (tgt := 741) hx hb dL_law_40 (by decide) (by decide) (by decide) (by decide) ?_
            exact law_case_17 hL hst C0 hA hAl hbA hK hZ hZT (by omega) (by omega) (by omega) (by omega) kk H _ ls hI hS (lv_sub hl [0, 1, 2, 3, 4] rfl)
          · refine tz_i (y := 18) (by decide) ?_
            refine lv_tableIn (off := 753) (tgt := 793) hx hb dL_law_40 (by decide) (by decide) (by decide) (by decide) ?_
            exact law_case_18 hL hst C0 hA hAl hbA hK hZ hZT (by omega) (by omega) (by omega) (by omega) kk H _ ls hI hS (lv_sub hl [0, 1, 2, 3, 4] rfl)
          · refine tz_i (y := 19) (by decide) ?_
            refine lv_tableIn (off := 805) (tgt := 845) hx hb dL_law_40 (by decide) (by decide) (by decide) (by decide) ?_
            exact law_case_19 hL hst C0 hA hAl hbA hK hZ hZT (by omega) (by omega) (by omega) (by omega) kk H _ ls hI hS (lv_sub hl [0, 1, 2, 3, 4] rfl)
          · refine tz_i (y := 20) (by decide) ?_
            refine lv_tableIn (off := 842) (tgt := 882) hx hb dL_law_40 (by decide) (by decide) (by decide) (by decide) ?_
            exact law_case_20 hL hst C0 hA hAl hbA hK hZ hZT (by omega) (by omega) (by omega) (by omega) kk H _ ls hI hS (lv_sub hl [0, 1, 2, 3, 4] rfl)
          · refine tz_i (y := 21) (by decide) ?_
            refine lv_tableIn (off := 855) (tgt := 895) hx hb dL_law_40 (by decide) (by decide) (by decide) (by decide) ?_
            exact law_case_21 hL hst C0 hA hAl hbA hK hZ hZT (by omega) (by omega) (by omega) (by omega) kk H _ ls hI hS (lv_sub hl [0, 1, 2, 3, 4] rfl)
          · refine tz_i (y := 22) (by decide) ?_
            refine lv_tableIn (off := 880) (tgt := 920) hx hb dL_law_40 (by decide) (by decide) (by decide) (by decide) ?_
            exact law_case_22 hL hst C0 hA hAl hbA hK hZ hZT (by omega) (by omega) (by omega) (by omega) kk H _ ls hI hS (lv_sub hl [0, 1, 2, 3, 4] rfl)
          · refine tz_i (y := 23) (by decide) ?_
            refine lv_tableIn (off := 920) (tgt := 960) hx hb dL_law_40 (by decide) (by decide) (by decide) (by decide) ?_
            exact law_case_23 hL hst C0 hA hAl hbA hK hZ hZT (by omega) (by omega) (by omega) (by omega) kk H _ ls hI hS (lv_sub hl [0, 1, 2, 3, 4] rfl)
          · refine tz_i (y := 24) (by decide) ?_
            refine lv_tableIn (off := 957) (tgt := 997) hx hb dL_law_40 (by decide) (by decide) (by decide) (by decide) ?_
            exact law_case_24 hL hst C0 hA hAl hbA hK hZ hZT (by omega) (by omega) (by omega) (by omega) kk H _ ls hI hS (lv_sub hl [0, 1, 2, 3, 4] rfl)
          · refine tz_i (y := 25) (by decide) ?_
            refine lv_tableIn (off := 982) (tgt := 1022) hx hb dL_law_40 (by decide) (by decide) (by decide) (by decide) ?_
            exact law_case_25 hL hst C0 hA hAl hbA hK hZ hZT (by omega) (by omega) (by omega) (by omega) kk H _ ls hI hS (lv_sub hl [0, 1, 2, 3, 4] rfl)
          · refine tz_i (y := 26) (by decide) ?_
            refine lv_tableIn (off := 995) (tgt := 1035) hx hb dL_law_40 (by decide) (by decide) (by decide) (by decide) ?_
            exact law_case_26 hL hst C0 hA hAl hbA hK hZ hZT (by omega) (by omega) (by omega) (by omega) kk H _ ls hI hS (lv_sub hl [0, 1, 2, 3, 4] rfl)
          · refine tz_i (y := 27) (by decide) ?_
            refine lv_tableIn (off := 1008) (tgt := 1048) hx hb dL_law_40 (by decide) (by decide) (by decide) (by decide) ?_
            exact law_case_27 hL hst C0 hA hAl hbA hK hZ hZT (by omega) (by omega) (by omega) (by omega) kk H _ ls hI hS (lv_sub hl [0, 1, 2, 3, 4] rfl)
          · refine tz_i (y := 28) (by decide) ?_
            refine lv_tableIn (off := 1057) (tgt := 1097) hx hb dL_law_40 (by decide) (by decide) (by decide) (by decide) ?_
            exact law_case_28 hL hst C0 hA hAl hbA hK hZ hZT (by omega) (by omega) (by omega) (by omega) kk H _ ls hI hS (lv_sub hl [0, 1, 2, 3, 4] rfl)
          · refine tz_i (y := 29) (by decide) ?_
            refine lv_tableIn (off := 1118) (tgt := 1158) hx hb dL_law_40 (by decide) (by decide) (by decide) (by decide) ?_
            exact law_case_29 hL hst C0 hA hAl hbA hK hZ hZT (by omega) (by omega) (by omega) (by omega) kk H _ ls hI hS (lv_sub hl [0, 1, 2, 3, 4] rfl)
          · refine tz_i (y := 30) (by decide) ?_
            refine lv_tableIn (off := 1131) (tgt := 1171) hx hb dL_law_40 (by decide) (by decide) (by decide) (by decide) ?_
            exact law_case_30 hL hst C0 hA hAl hbA hK hZ hZT (by omega) (by omega) (by omega) (by omega) kk H _ ls hI hS (lv_sub hl [0, 1, 2, 3, 4] rfl)
          · refine tz_i (y := 31) (by decide) ?_
            refine lv_tableIn (off := 1156) (tgt := 1196) hx hb dL_law_40 (by decide) (by decide) (by decide) (by decide) ?_
            exact law_case_31 hL hst C0 hA hAl hbA hK hZ hZT (by omega) (by omega) (by omega) (by omega) kk H _ ls hI hS (lv_sub hl [0, 1, 2, 3, 4] rfl)
          · refine tz_i (y := 32) (by decide) ?_
            refine lv_tableIn (off := 1169) (tgt := 1209) hx hb dL_law_40 (by decide) (by decide) (by decide) (by decide) ?_
            exact law_case_32 hL hst C0 hA hAl hbA hK hZ hZT (by omega) (by omega) (by omega) (by omega) kk H _ ls hI hS (lv_sub hl [0, 1, 2, 3, 4] rfl)
          · refine tz_i (y := 33) (by decide) ?_
            refine lv_tableIn (off := 1194) (tgt := 1234) hx hb dL_law_40 (by decide) (by decide) (by decide) (by decide) ?_
            exact law_case_33 hL hst C0 hA hAl hbA hK hZ hZT (by omega) (by omega) (by omega) (by omega) kk H _ ls hI hS (lv_sub hl [0, 1, 2, 3, 4] rfl)
          · refine tz_i (y := 34) (by decide) ?_
            refine lv_tableIn (off := 1219) (tgt := 1259) hx hb dL_law_40 (by decide) (by decide) (by decide) (by decide) ?_
            exact law_case_34 hL hst C0 hA hAl hbA hK hZ hZT (by omega) (by omega) (by omega) (by omega) kk H _ ls hI hS (lv_sub hl [0, 1, 2, 3, 4] rfl)
        · refine lv_tableOut (tgt := 1284) hx hb dL_law_40 (tz_out hin) (by decide) ?_
          refine W.widen (k := cells + 1) (n := slots + 6) (by omega) (by omega) ?_
          exact kk H _ ls hI hS (lv_sub hl [0, 1, 2, 3, 4] rfl)
