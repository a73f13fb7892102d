set_option maxHeartbeats 4000000 in
set_option maxRecDepth 100000 in
theorem c_X12_known (l : Launch) (D : va_G) (g : Nat → ClassId) (kn : Nat) (kf : Nat → Int32) (A : Nat → Prop) (mm : Nat) (i_thrown : Int32) (m_s : Nat) (m_spare : Nat) (m_kept : Nat) (m_undone : Nat) (m_triedWay : Nat) (m_isKept : Nat) (i_undoMany : Int32) (m_tape : Nat) (i_length : Int32) (i_size : Int32) (i_p : Int32) (i_at : Int32) (i_token : Int32) (i_number : Int32) (i_letterMany : Int32) (i_fault : Int32) (i_faultAt : Int32) (m_letters : Nat) (i_isKnown : Int32) (m_choice : Nat) (m_row : Nat) (m_up : Nat) (m_low : Nat) (m_m : Nat) (m_bestUp : Nat) (m_bestLow : Nat) (m_replyUp : Nat) (m_replyLow : Nat) (m_worthUp : Nat) (m_worthLow : Nat) (m_bestWay : Nat) (i_seed : Int32) (m_told : Nat) (i_toldMany : Int32) (lf : Nat → Int32) (h_i_undoMany : 0 ≤ (i_undoMany : Int32).toInt ∧ (i_undoMany : Int32).toInt ≤ 8) (h_i_length : 0 ≤ (i_length : Int32).toInt ∧ (i_length : Int32).toInt ≤ 440) (h_i_size : 0 ≤ (i_size : Int32).toInt ∧ (i_size : Int32).toInt ≤ 440) (h_i_p : 0 ≤ (i_p : Int32).toInt ∧ (i_p : Int32).toInt ≤ 440) (h_i_at : 0 ≤ (i_at : Int32).toInt ∧ (i_at : Int32).toInt ≤ 440) (h_i_token : 0 ≤ (i_token : Int32).toInt ∧ (i_token : Int32).toInt ≤ 4) (h_i_number : 0 ≤ (i_number : Int32).toInt ∧ (i_number : Int32).toInt ≤ 814) (h_i_letterMany : (-440) ≤ (i_letterMany : Int32).toInt ∧ (i_letterMany : Int32).toInt ≤ 440) (h_i_faultAt : 0 ≤ (i_faultAt : Int32).toInt ∧ (i_faultAt : Int32).toInt ≤ 440) (h_i_isKnown : 0 ≤ (i_isKnown : Int32).toInt ∧ (i_isKnown : Int32).toInt ≤ 1) (h_i_toldMany : 0 ≤ (i_toldMany : Int32).toInt ∧ (i_toldMany : Int32).toInt ≤ 900) : Met l yX12_known (.code yX12_known cX12_known 4 (some .int) :: wsL_law) ({ frames := 0, cells := 0, slots := 0, locals := 0 }) (va_Pc [.ref mm] (fun U => va_P D vwCl [(wO12 mm i_thrown m_s m_spare m_kept m_undone m_triedWay m_isKept i_undoMany m_tape i_length i_size i_p i_at i_token i_number i_letterMany i_fault i_faultAt m_letters i_isKnown m_choice m_row m_up m_low m_m m_bestUp m_bestLow m_replyUp m_replyLow m_worthUp m_worthLow m_bestWay i_seed m_told i_toldMany), (wI g m_letters 2 6 lf)] U.heap ∧ va_K D vwCl (TY g) U ∧ ZK kn kf A U U.heap)) (vp_Si (fun r => ((-1) ≤ (r : Int32).toInt ∧ (r : Int32).toInt ≤ 4) ∧ (Hide ((r : Int32).toInt = -1 → (i_token : Int32).toInt = 1 → ∀ k : Nat, k < 5 → ¬ Mt6 (kw6 kf k) (pad lf (i_letterMany : Int32).toInt))) ∧ (Hide (0 ≤ (r : Int32).toInt → (i_token : Int32).toInt = 1 ∧ Mt6 (kw6 kf (r : Int32).toInt.toNat) (pad lf (i_letterMany : Int32).toInt))))) 0 0 (fun _ => False) := by
  refine Met.ofW (cc := cX12_known) (maxL := 4) (ret := (some .int)) (by decide) rfl ?_
  intro p e s m args below meth c s₁ B hml hv
  obtain ⟨ha, hP, hK, hZ⟩ := hv
  have hx := B.exec
  have hb := B.bytes
  have hr := B.returns
  have hts0 := atoms_spec (ws := (.code yX12_known cX12_known 4 (some .int) :: wsL_law)) B.pre
  have hts : ∀ w ∈ wsL_law, w.before args s = true := fun w h => hts0 w (List.mem_cons_of_mem _ h)
  have hown : s.vm.findClass RX12 = some m.cls := findClass_of_methodNamed B.named
  have hlocks := B.notSynchronized
  have hP : va_P D vwCl [(wO12 mm i_thrown m_s m_spare m_kept m_undone m_triedWay m_isKept i_undoMany m_tape i_length i_size i_p i_at i_token i_number i_letterMany i_fault i_faultAt m_letters i_isKnown m_choice m_row m_up m_low m_m m_bestUp m_bestLow m_replyUp m_replyLow m_worthUp m_worthLow m_bestWay i_seed m_told i_toldMany), (wI g m_letters 2 6 lf)] s.heap := hP
  refine W.eq (g2 := entryFrame m ([.ref mm] : List Value).toArray 4) (by rw [ha]) ?_
  have hl := lv_entry ([.ref mm]) (n := 4) (Nat.le_of_ble_eq_true rfl)
  rw [lg_entry_eq]
  generalize (lg_sl ([.ref mm]) ++ List.replicate (4 - (lg_sl ([.ref mm])).length) Slot.unset).toArray = ls at hl ⊢
  have hl : lv_has ls 4 [(0, .ref mm)] := hl
  refine lv_iconst (v := 0) hx hb dX12_known_0 (by decide) ?_
  refine lv_istore_n (lv' := [(1, .int 0), (0, .ref mm)]) hx hb dX12_known_1 rfl hl (by decide) rfl (fun ls hl => ?_)
  have lp_1843 : ∀ (n_1843 : Nat) (x_1842 : Int32) (ls : Array Slot), (0 ≤ (x_1842 : Int32).toInt ∧ (x_1842 : Int32).toInt ≤ 5) → (∀ k : Nat, k < x_1842.toInt.toNat → (i_token : Int32).toInt = 1 → ¬ Mt6 (kw6 kf k) (pad lf (i_letterMany : Int32).toInt)) → (5 - x_1842.toInt < (n_1843 : Int)) → lv_has ls 4 [(1, .int x_1842), (0, .ref mm)] → W p l e (headSpec (.code yX12_known cX12_known 4 (some .int) :: wsL_law) ({ frames := 0, cells := 0, slots := 0, locals := 0 })).room s m args below meth c s.heap [] 0 0 (MQ below (vp_Si (fun r => ((-1) ≤ (r : Int32).toInt ∧ (r : Int32).toInt ≤ 4) ∧ (Hide ((r : Int32).toInt = -1 → (i_token : Int32).toInt = 1 → ∀ k : Nat, k < 5 → ¬ Mt6 (kw6 kf k) (pad lf (i_letterMany : Int32).toInt))) ∧ (Hide (0 ≤ (r : Int32).toInt → (i_token : Int32).toInt = 1 ∧ Mt6 (kw6 kf (r : Int32).toInt.toNat) (pad lf (i_letterMany : Int32).toInt))))) args s 0 0 (fun _ => False)) (F0 m 2 ls []) := by
    intro n_1843
    induction n_1843 with
    | zero =>
      intro x_1842 ls h_x_1842 hr1843_0 hm_1843 hl
      exfalso; omega
    | succ n_1843 ih_1843 =>
      intro x_1842 ls h_x_1842 hr1843_0 hm_1843 hl
      refine lv_iload_n hx hb dX12_known_2 rfl (lv_at hl 0 rfl) ?_
      refine lv_iconst (v := 5) hx hb dX12_known_3 (by decide) ?_
      refine lv_icmp_ge (tgt := 88) hx hb dX12_known_4 (by decide) (fun c_1844 => ?_) (fun c_1844 => ?_)
      · skip
        have kk_5 := tk_5
        have c_1844_i := Int32.le_iff_toInt_le.mp c_1844
        have h_1845 : 5 ≤ (x_1842 : Int32).toInt ∧ (x_1842 : Int32).toInt ≤ 5 := nr_le_r (⟨by decide, by decide⟩ : 5 ≤ (5 : Int32).toInt ∧ (5 : Int32).toInt ≤ 5) h_x_1842 c_1844_i (by decide) (by decide)
        refine lv_iconst (v := (-1)) hx hb dX12_known_88 (by decide) ?_
        exact W.iret (v := (-1)) hx hb hr (fun t ht hW => ⟨(-1), rfl, ⟨(⟨by decide, by decide⟩ : (-1) ≤ ((-1) : Int32).toInt ∧ ((-1) : Int32).toInt ≤ 4), (fun _ h9 k h8 => hr1843_0 k (by have z_5 := tk_5; (first | (clear h_i_undoMany h_i_length h_i_size h_i_p h_i_at h_i_token h_i_number h_i_letterMany h_i_faultAt h_i_isKnown h_i_toldMany h_x_1842 c_1844_i h_1845; omega) | omega)) h9), (fun h9 => absurd h9 (by decide))⟩, ht⟩) (fun _ h => nomatch h) dX12_known_89
      · skip
        have kk_5 := tk_5
        have c_1844_i := Int32.lt_iff_toInt_lt.mp (Int32.not_le.mp c_1844)
        have h_1846 : 0 ≤ (x_1842 : Int32).toInt ∧ (x_1842 : Int32).toInt ≤ 4 := nr_lt_l h_x_1842 (⟨by decide, by decide⟩ : 5 ≤ (5 : Int32).toInt ∧ (5 : Int32).toInt ≤ 5) c_1844_i (by decide) (by decide)
        refine lv_aload_n hx hb dX12_known_7 rfl (lv_at hl 1 rfl) ?_
        refine va_get (D := D) (ci := 12) (v := .int i_token) (C := RX12) (T := TX12) (N := 35) hx hb hts inlX12 hown hK hP 0 rfl rfl 13 (by decide) (hts (Cond.fieldLink RX12 116 "ChanceRingsModel" "token" "I") qw_33) (fun _ h9 => h9) rfl dX12_known_8 ?_
        refine lv_iconst (v := 1) hx hb dX12_known_11 (by decide) ?_
        refine lv_icmp_ne (tgt := 19) hx hb dX12_known_12 (by decide) (fun c_1847 => ?_) (fun c_1847 => ?_)
        · skip
          have kk_1 := tk_1
          have c_1847_i : ¬ (i_token : Int32).toInt = (1 : Int32).toInt := (fun q => c_1847 (Int32.toInt_inj.mp q))
          refine lv_iconst (v := 0) hx hb dX12_known_19 (by decide) ?_
          refine lv_istore_n (lv' := [(2, .int 0), (1, .int x_1842), (0, .ref mm)]) hx hb dX12_known_20 rfl hl (by decide) rfl (fun ls hl => ?_)
          refine lv_iconst (v := 0) hx hb dX12_known_21 (by decide) ?_
          refine lv_istore_n (lv' := [(3, .int 0), (2, .int 0), (1, .int x_1842), (0, .ref mm)]) hx hb dX12_known_22 rfl hl (by decide) rfl (fun ls hl => ?_)
          have lp_1879 : ∀ (n_1879 : Nat) (x_1877 : Int32) (x_1878 : Int32) (ls : Array Slot), (0 ≤ (x_1877 : Int32).toInt ∧ (x_1877 : Int32).toInt ≤ 1) → (0 ≤ (x_1878 : Int32).toInt ∧ (x_1878 : Int32).toInt ≤ 6) → ((x_1877.toInt = 1 → (i_token : Int32).toInt = 1 ∧ ∀ q : Nat, q < x_1878.toInt.toNat → kw6 kf x_1842.toInt.toNat q = pad lf (i_letterMany : Int32).toInt q) ∧ (x_1877.toInt = 0 → (i_token : Int32).toInt = 1 → ¬ Mt6 (kw6 kf x_1842.toInt.toNat) (pad lf (i_letterMany : Int32).toInt))) → (6 - x_1878.toInt < (n_1879 : Int)) → lv_has ls 4 [(3, .int x_1878), (2, .int x_1877), (1, .int x_1842), (0, .ref mm)] → W p l e (headSpec (.code yX12_known cX12_known 4 (some .int) :: wsL_law) ({ frames := 0, cells := 0, slots := 0, locals := 0 })).room s m args below meth c s.heap [] 0 0 (MQ below (vp_Si (fun r => ((-1) ≤ (r : Int32).toInt ∧ (r : Int32).toInt ≤ 4) ∧ (Hide ((r : Int32).toInt = -1 → (i_token : Int32).toInt = 1 → ∀ k : Nat, k < 5 → ¬ Mt6 (kw6 kf k) (pad lf (i_letterMany : Int32).toInt))) ∧ (Hide (0 ≤ (r : Int32).toInt → (i_token : Int32).toInt = 1 ∧ Mt6 (kw6 kf (r : Int32).toInt.toNat) (pad lf (i_letterMany : Int32).toInt))))) args s 0 0 (fun _ => False)) (F0 m 23 ls []) := by
            intro n_1879
            induction n_1879 with
            | zero =>
              intro x_1877 x_1878 ls h_x_1877 h_x_1878 hr1879_0 hm_1879 hl
              exfalso; omega
            | succ n_1879 ih_1879 =>
              intro x_1877 x_1878 ls h_x_1877 h_x_1878 hr1879_0 hm_1879 hl
              refine lv_iload_n hx hb dX12_known_23 rfl (lv_at hl 0 rfl) ?_
              refine lv_bipush (v := 6) hx hb dX12_known_24 (by decide) ?_
              refine lv_icmp_ge (tgt := 76) hx hb dX12_known_26 (by decide) (fun c_1880 => ?_) (fun c_1880 => ?_)
              · skip
                have kk_6 := tk_6
                have c_1880_i := Int32.le_iff_toInt_le.mp c_1880
                have h_1881 : 6 ≤ (x_1878 : Int32).toInt ∧ (x_1878 : Int32).toInt ≤ 6 := nr_le_r (⟨by decide, by decide⟩ : 6 ≤ (6 : Int32).toInt ∧ (6 : Int32).toInt ≤ 6) h_x_1878 c_1880_i (by decide) (by decide)
                refine lv_iload_n hx hb dX12_known_76 rfl (lv_at hl 1 rfl) ?_
                refine lv_if_eq (tgt := 82) hx hb dX12_known_77 (by decide) (fun c_1883 => ?_) (fun c_1883 => ?_)
                · skip
                  have kk_0 := tk_0
                  have c_1883_i : (x_1877 : Int32).toInt = (0 : Int32).toInt := congrArg Int32.toInt c_1883
                  have h_1884 : 0 ≤ (x_1877 : Int32).toInt ∧ (x_1877 : Int32).toInt ≤ 0 := nr_eq_l h_x_1877 (⟨by decide, by decide⟩ : 0 ≤ (0 : Int32).toInt ∧ (0 : Int32).toInt ≤ 0) c_1883_i (by decide) (by decide)
                  obtain ⟨v_1886, v_1886_e⟩ : ∃ y : Int32, y = x_1842 + Int32.ofInt 1 := ⟨_, rfl⟩
                  have h_v_1886 : 1 ≤ (v_1886 : Int32).toInt ∧ (v_1886 : Int32).toInt ≤ 5 := by rw [v_1886_e]; exact tr_add h_1846 (⟨by decide, by decide⟩ : 1 ≤ (Int32.ofInt 1 : Int32).toInt ∧ (Int32.ofInt 1 : Int32).toInt ≤ 1) (by decide) (by decide) (by decide) (by decide)
                  have q_v_1886 : v_1886.toInt = x_1842.toInt + 1 := by rw [v_1886_e]; exact tr_addE h_1846 (⟨by decide, by decide⟩ : 1 ≤ (Int32.ofInt 1 : Int32).toInt ∧ (Int32.ofInt 1 : Int32).toInt ≤ 1) (by decide) (by decide)
                  refine lv_iinc (v := v_1886) (lv' := [(1, .int v_1886), (3, .int x_1878), (2, .int x_1877), (0, .ref mm)]) hx hb dX12_known_82 hl (k := 2) rfl v_1886_e.symm (by decide) rfl (fun ls hl => ?_)
                  refine lv_goto (tgt := 2) hx hb dX12_known_85 (by decide) ?_
                  exact ih_1843 v_1886 ls (tr_w h_v_1886 (by decide) (by decide)) (all_nx hr1843_0 (hr1879_0.2 (by have z_0 := tk_0; (first | (clear h_i_undoMany h_i_length h_i_size h_i_p h_i_at h_i_token h_i_number h_i_letterMany h_i_faultAt h_i_isKnown h_i_toldMany c_1847_i h_x_1877 h_x_1878 c_1880_i h_1881 c_1883_i h_1884; omega) | omega))) (by (first | (clear h_i_undoMany h_i_length h_i_size h_i_p h_i_at h_i_token h_i_number h_i_letterMany h_i_faultAt h_i_isKnown h_i_toldMany c_1847_i h_x_1877 h_x_1878 c_1880_i h_1881 c_1883_i h_1884; omega) | omega))) (by (first | (clear h_i_undoMany h_i_length h_i_size h_i_p h_i_at h_i_token h_i_number h_i_letterMany h_i_faultAt h_i_isKnown h_i_toldMany c_1847_i h_x_1877 h_x_1878 c_1880_i h_1881 c_1883_i h_1884; omega) | omega)) (lv_sub hl [0, 3] rfl)
                · skip
                  have kk_0 := tk_0
                  have c_1883_i : ¬ (x_1877 : Int32).toInt = (0 : Int32).toInt := (fun q => c_1883 (Int32.toInt_inj.mp q))
                  have h_1885 : 1 ≤ (x_1877 : Int32).toInt ∧ (x_1877 : Int32).toInt ≤ 1 := nr_ne_l h_x_1877 (⟨by decide, by decide⟩ : 0 ≤ (0 : Int32).toInt ∧ (0 : Int32).toInt ≤ 0) c_1883_i (by decide) (by decide)
                  refine lv_iload_n hx hb dX12_known_80 rfl (lv_at hl 2 rfl) ?_
                  exact W.iret (v := x_1842) hx hb hr (fun t ht hW => ⟨x_1842, rfl, ⟨(tr_w h_1846 (by decide) (by decide)), (fun h9 => absurd h9 (by (first | (clear h_i_undoMany h_i_length h_i_size h_i_p h_i_at h_i_token h_i_number h_i_letterMany h_i_faultAt h_i_isKnown h_i_toldMany c_1847_i h_x_1877 h_x_1878 c_1880_i h_1881 c_1883_i h_1885; omega) | omega))), (fun _ => ⟨(hr1879_0.1 (by have z_0 := tk_0; (first | (clear h_i_undoMany h_i_length h_i_size h_i_p h_i_at h_i_token h_i_number h_i_letterMany h_i_faultAt h_i_isKnown h_i_toldMany c_1847_i h_x_1877 h_x_1878 c_1880_i h_1881 c_1883_i h_1885; omega) | omega))).1, fun q h9 => (hr1879_0.1 (by have z_0 := tk_0; (first | (clear h_i_undoMany h_i_length h_i_size h_i_p h_i_at h_i_token h_i_number h_i_letterMany h_i_faultAt h_i_isKnown h_i_toldMany c_1847_i h_x_1877 h_x_1878 c_1880_i h_1881 c_1883_i h_1885; omega) | omega))).2 q (by have z_6 := tk_6; (first | (clear h_i_undoMany h_i_length h_i_size h_i_p h_i_at h_i_token h_i_number h_i_letterMany h_i_faultAt h_i_isKnown h_i_toldMany c_1847_i h_x_1877 h_x_1878 c_1880_i h_1881 c_1883_i h_1885; omega) | omega))⟩)⟩, ht⟩) (fun _ h => nomatch h) dX12_known_81
              · skip
                have kk_6 := tk_6
                have c_1880_i := Int32.lt_iff_toInt_lt.mp (Int32.not_le.mp c_1880)
                have h_1882 : 0 ≤ (x_1878 : Int32).toInt ∧ (x_1878 : Int32).toInt ≤ 5 := nr_lt_l h_x_1878 (⟨by decide, by decide⟩ : 6 ≤ (6 : Int32).toInt ∧ (6 : Int32).toInt ≤ 6) c_1880_i (by decide) (by decide)
                refine lv_iload_n hx hb dX12_known_29 rfl (lv_at hl 1 rfl) ?_
                refine lv_if_eq (tgt := 76) hx hb dX12_known_30 (by decide) (fun c_1887 => ?_) (fun c_1887 => ?_)
                · skip
                  have kk_0 := tk_0
                  have c_1887_i : (x_1877 : Int32).toInt = (0 : Int32).toInt := congrArg Int32.toInt c_1887
                  have h_1888 : 0 ≤ (x_1877 : Int32).toInt ∧ (x_1877 : Int32).toInt ≤ 0 := nr_eq_l h_x_1877 (⟨by decide, by decide⟩ : 0 ≤ (0 : Int32).toInt ∧ (0 : Int32).toInt ≤ 0) c_1887_i (by decide) (by decide)
                  refine lv_iload_n hx hb dX12_known_76 rfl (lv_at hl 1 rfl) ?_
                  refine lv_if_eq (tgt := 82) hx hb dX12_known_77 (by decide) (fun c_1890 => ?_) (fun h9 => (nr_x_ne h_1888 (⟨by decide, by decide⟩ : 0 ≤ (0 : Int32).toInt ∧ (0 : Int32).toInt ≤ 0) (fun q => h9 (Int32.toInt_inj.mp q)) (by decide)).elim)
                  have c_1890_i : (x_1877 : Int32).toInt = (0 : Int32).toInt := congrArg Int32.toInt c_1890
                  obtain ⟨v_1891, v_1891_e⟩ : ∃ y : Int32, y = x_1842 + Int32.ofInt 1 := ⟨_, rfl⟩
                  have h_v_1891 : 1 ≤ (v_1891 : Int32).toInt ∧ (v_1891 : Int32).toInt ≤ 5 := by rw [v_1891_e]; exact tr_add h_1846 (⟨by decide, by decide⟩ : 1 ≤ (Int32.ofInt 1 : Int32).toInt ∧ (Int32.ofInt 1 : Int32).toInt ≤ 1) (by decide) (by decide) (by decide) (by decide)
                  have q_v_1891 : v_1891.toInt = x_1842.toInt + 1 := by rw [v_1891_e]; exact tr_addE h_1846 (⟨by decide, by decide⟩ : 1 ≤ (Int32.ofInt 1 : Int32).toInt ∧ (Int32.ofInt 1 : Int32).toInt ≤ 1) (by decide) (by decide)
                  refine lv_iinc (v := v_1891) (lv' := [(1, .int v_1891), (3, .int x_1878), (2, .int x_1877), (0, .ref mm)]) hx hb dX12_known_82 hl (k := 2) rfl v_1891_e.symm (by decide) rfl (fun ls hl => ?_)
                  refine lv_goto (tgt := 2) hx hb dX12_known_85 (by decide) ?_
                  exact ih_1843 v_1891 ls (tr_w h_v_1891 (by decide) (by decide)) (all_nx hr1843_0 (hr1879_0.2 (by have z_0 := tk_0; (first | (clear h_i_undoMany h_i_length h_i_size h_i_p h_i_at h_i_token h_i_number h_i_letterMany h_i_faultAt h_i_isKnown h_i_toldMany c_1847_i h_x_1877 h_x_1878 c_1880_i h_1882 c_1887_i h_1888 c_1890_i; omega) | omega))) (by (first | (clear h_i_undoMany h_i_length h_i_size h_i_p h_i_at h_i_token h_i_number h_i_letterMany h_i_faultAt h_i_isKnown h_i_toldMany c_1847_i h_x_1877 h_x_1878 c_1880_i h_1882 c_1887_i h_1888 c_1890_i; omega) | omega))) (by (first | (clear h_i_undoMany h_i_length h_i_size h_i_p h_i_at h_i_token h_i_number h_i_letterMany h_i_faultAt h_i_isKnown h_i_toldMany c_1847_i h_x_1877 h_x_1878 c_1880_i h_1882 c_1887_i h_1888 c_1890_i; omega) | omega)) (lv_sub hl [0, 3] rfl)
                · skip
                  have kk_0 := tk_0
                  have c_1887_i : ¬ (x_1877 : Int32).toInt = (0 : Int32).toInt := (fun q => c_1887 (Int32.toInt_inj.mp q))
                  have h_1889 : 1 ≤ (x_1877 : Int32).toInt ∧ (x_1877 : Int32).toInt ≤ 1 := nr_ne_l h_x_1877 (⟨by decide, by decide⟩ : 0 ≤ (0 : Int32).toInt ∧ (0 : Int32).toInt ≤ 0) c_1887_i (by decide) (by decide)
                  refine va_gets hx hb hZ.1 va_S.rf hown (hts (Cond.fieldLink RX12 132 "ChanceRingsModel" "KNOWN" "[B") qw_34) (fun _ h9 => h9) dX12_known_33 ?_
                  refine lv_bipush (v := 6) hx hb dX12_known_36 (by decide) ?_
                  refine lv_iload_n hx hb dX12_known_38 rfl (lv_at hl 2 rfl) ?_
                  refine lv_imul hx hb dX12_known_39 ?_
                  refine lv_topi (fun v_1892 v_1892_e => ?_)
                  have h_v_1892 : 0 ≤ (v_1892 : Int32).toInt ∧ (v_1892 : Int32).toInt ≤ 24 := by rw [v_1892_e]; exact tr_mul (⟨by decide, by decide⟩ : 6 ≤ (6 : Int32).toInt ∧ (6 : Int32).toInt ≤ 6) h_1846 (by decide) (by decide) (by decide) (by decide)
                  have q_v_1892 : v_1892.toInt = 6 * x_1842.toInt := by rw [v_1892_e]; exact (tr_mulX (⟨by decide, by decide⟩ : 6 ≤ (6 : Int32).toInt ∧ (6 : Int32).toInt ≤ 6) h_1846 (by decide) (by decide)).trans (by rw [tk_6])
                  refine lv_iload_n hx hb dX12_known_40 rfl (lv_at hl 0 rfl) ?_
                  refine lv_iadd hx hb dX12_known_41 ?_
                  refine lv_topi (fun v_1893 v_1893_e => ?_)
                  have h_v_1893 : 0 ≤ (v_1893 : Int32).toInt ∧ (v_1893 : Int32).toInt ≤ 29 := by rw [v_1893_e]; exact tr_add h_v_1892 h_1882 (by decide) (by decide) (by decide) (by decide)
                  have q_v_1893 : v_1893.toInt = v_1892.toInt + x_1878.toInt := by rw [v_1893_e]; exact tr_addX h_v_1892 h_1882 (by decide) (by decide)
                  refine va_tb hx hb hZ.2 va_S.rf (tr_in h_v_1893 (by decide) (by decide)) rfl dX12_known_42 ?_
                  refine lv_topi (fun v_1894 v_1894_e => ?_)
                  have ka_9 : kw6 kf x_1842.toInt.toNat x_1878.toInt.toNat = v_1894.toInt := ((congrArg Int32.toInt v_1894_e).trans (congrArg (fun z9 => (kf z9).toInt) (by show Int.toNat _ = _; (first | (clear h_i_undoMany h_i_length h_i_size h_i_p h_i_at h_i_token h_i_number h_i_letterMany h_i_faultAt h_i_isKnown h_i_toldMany c_1847_i h_x_1877 c_1887_i h_1889; omega) | omega)))).symm
                  refine lv_iload_n hx hb dX12_known_43 rfl (lv_at hl 0 rfl) ?_
                  refine lv_aload_n hx hb dX12_known_44 rfl (lv_at hl 3 rfl) ?_
                  refine va_get (D := D) (ci := 12) (v := .int i_letterMany) (C := RX12) (T := TX12) (N := 35) hx hb hts inlX12 hown hK hP 0 rfl rfl 15 (by decide) (hts (Cond.fieldLink RX12 129 "ChanceRingsModel" "letterMany" "I") qw_32) (fun _ h9 => h9) rfl dX12_known_45 ?_
                  refine lv_icmp_ge (tgt := 60) hx hb dX12_known_48 (by decide) (fun c_1895 => ?_) (fun c_1895 => ?_)
                  · skip
                    have c_1895_i := Int32.le_iff_toInt_le.mp c_1895
                    have h_1896 : (-440) ≤ (i_letterMany : Int32).toInt ∧ (i_letterMany : Int32).toInt ≤ 5 := nr_le_l h_i_letterMany h_1882 c_1895_i (by decide) (by decide)
                    refine lv_iconst (v := 0) hx hb dX12_known_60 (by decide) ?_
                    have kb_9 : pad lf (i_letterMany : Int32).toInt x_1878.toInt.toNat = 0 := if_neg (by (first | (clear h_i_undoMany h_i_length h_i_size h_i_p h_i_at h_i_token h_i_number h_i_faultAt h_i_isKnown h_i_toldMany c_1847_i h_x_1877 c_1887_i h_1889; omega) | omega))
                    refine lv_icmp_ne (tgt := 68) hx hb dX12_known_61 (by decide) (fun c_1898 => ?_) (fun c_1898 => ?_)
                    · skip
                      have c_1898_i : ¬ (v_1894 : Int32).toInt = (0 : Int32).toInt := (fun q => c_1898 (Int32.toInt_inj.mp q))
                      refine lv_iconst (v := 0) hx hb dX12_known_68 (by decide) ?_
                      refine lv_istore_n (lv' := [(2, .int 0), (3, .int x_1878), (1, .int x_1842), (0, .ref mm)]) hx hb dX12_known_69 rfl hl (by decide) rfl (fun ls hl => ?_)
                      obtain ⟨v_1900, v_1900_e⟩ : ∃ y : Int32, y = x_1878 + Int32.ofInt 1 := ⟨_, rfl⟩
                      have h_v_1900 : 1 ≤ (v_1900 : Int32).toInt ∧ (v_1900 : Int32).toInt ≤ 6 := by rw [v_1900_e]; exact tr_add h_1882 (⟨by decide, by decide⟩ : 1 ≤ (Int32.ofInt 1 : Int32).toInt ∧ (Int32.ofInt 1 : Int32).toInt ≤ 1) (by decide) (by decide) (by decide) (by decide)
                      have q_v_1900 : v_1900.toInt = x_1878.toInt + 1 := by rw [v_1900_e]; exact tr_addE h_1882 (⟨by decide, by decide⟩ : 1 ≤ (Int32.ofInt 1 : Int32).toInt ∧ (Int32.ofInt 1 : Int32).toInt ≤ 1) (by decide) (by decide)
                      refine lv_iinc (v := v_1900) (lv' := [(3, .int v_1900), (2, .int 0), (1, .int x_1842), (0, .ref mm)]) hx hb dX12_known_70 hl (k := 1) rfl v_1900_e.symm (by decide) rfl (fun ls hl => ?_)
                      refine lv_goto (tgt := 23) hx hb dX12_known_73 (by decide) ?_
                      exact ih_1879 0 v_1900 ls (⟨by decide, by decide⟩ : 0 ≤ (0 : Int32).toInt ∧ (0 : Int32).toInt ≤ 1) (tr_w h_v_1900 (by decide) (by decide)) ⟨fun h9 => absurd h9 (by decide), fun _ _ m9 => by have q0 := m9 x_1878.toInt.toNat (by (first | (clear h_i_undoMany h_i_length h_i_size h_i_p h_i_at h_i_token h_i_number h_i_faultAt h_i_isKnown h_i_toldMany c_1847_i h_x_1877 c_1887_i h_1889; omega) | omega)); have q1 := ka_9; have q2 := kb_9; have z_0 := tk_0; (first | (clear h_i_undoMany h_i_length h_i_size h_i_p h_i_at h_i_token h_i_number h_i_faultAt h_i_isKnown h_i_toldMany c_1847_i h_x_1877 c_1887_i h_1889; omega) | omega)⟩ (by (first | (clear h_i_undoMany h_i_length h_i_size h_i_p h_i_at h_i_token h_i_number h_i_faultAt h_i_isKnown h_i_toldMany c_1847_i h_x_1877 c_1887_i h_1889; omega) | omega)) (lv_sub hl [0, 1, 2, 3] rfl)
                    · skip
                      have c_1898_i : (v_1894 : Int32).toInt = (0 : Int32).toInt := congrArg Int32.toInt c_1898
                      have h_1899 : 0 ≤ (v_1894 : Int32).toInt ∧ (v_1894 : Int32).toInt ≤ 0 := by rw [c_1898]; exact ⟨by decide, by decide⟩
                      refine lv_iconst (v := 1) hx hb dX12_known_64 (by decide) ?_
                      refine lv_goto (tgt := 69) hx hb dX12_known_65 (by decide) ?_
                      refine lv_istore_n (lv' := [(2, .int 1), (3, .int x_1878), (1, .int x_1842), (0, .ref mm)]) hx hb dX12_known_69 rfl hl (by decide) rfl (fun ls hl => ?_)
                      obtain ⟨v_1901, v_1901_e⟩ : ∃ y : Int32, y = x_1878 + Int32.ofInt 1 := ⟨_, rfl⟩
                      have h_v_1901 : 1 ≤ (v_1901 : Int32).toInt ∧ (v_1901 : Int32).toInt ≤ 6 := by rw [v_1901_e]; exact tr_add h_1882 (⟨by decide, by decide⟩ : 1 ≤ (Int32.ofInt 1 : Int32).toInt ∧ (Int32.ofInt 1 : Int32).toInt ≤ 1) (by decide) (by decide) (by decide) (by decide)
                      have q_v_1901 : v_1901.toInt = x_1878.toInt + 1 := by rw [v_1901_e]; exact tr_addE h_1882 (⟨by decide, by decide⟩ : 1 ≤ (Int32.ofInt 1 : Int32).toInt ∧ (Int32.ofInt 1 : Int32).toInt ≤ 1) (by decide) (by decide)
                      refine lv_iinc (v := v_1901) (lv' := [(3, .int v_1901), (2, .int 1), (1, .int x_1842), (0, .ref mm)]) hx hb dX12_known_70 hl (k := 1) rfl v_1901_e.symm (by decide) rfl (fun ls hl => ?_)
                      refine lv_goto (tgt := 23) hx hb dX12_known_73 (by decide) ?_
                      exact ih_1879 1 v_1901 ls (⟨by decide, by decide⟩ : 0 ≤ (1 : Int32).toInt ∧ (1 : Int32).toInt ≤ 1) (tr_w h_v_1901 (by decide) (by decide)) ⟨fun _ => ⟨(hr1879_0.1 (by (first | (clear h_i_undoMany h_i_length h_i_size h_i_p h_i_at h_i_token h_i_number h_i_faultAt h_i_isKnown h_i_toldMany c_1847_i h_x_1877 c_1887_i h_1889; omega) | omega))).1, all_nx (hr1879_0.1 (by (first | (clear h_i_undoMany h_i_length h_i_size h_i_p h_i_at h_i_token h_i_number h_i_faultAt h_i_isKnown h_i_toldMany c_1847_i h_x_1877 c_1887_i h_1889; omega) | omega))).2 (by have q1 := ka_9; have q2 := kb_9; have z_0 := tk_0; (first | (clear h_i_undoMany h_i_length h_i_size h_i_p h_i_at h_i_token h_i_number h_i_faultAt h_i_isKnown h_i_toldMany c_1847_i h_x_1877 c_1887_i h_1889; omega) | omega)) (by (first | (clear h_i_undoMany h_i_length h_i_size h_i_p h_i_at h_i_token h_i_number h_i_faultAt h_i_isKnown h_i_toldMany c_1847_i h_x_1877 c_1887_i h_1889; omega) | omega))⟩, fun h9 => absurd h9 (by decide)⟩ (by (first | (clear h_i_undoMany h_i_length h_i_size h_i_p h_i_at h_i_token h_i_number h_i_faultAt h_i_isKnown h_i_toldMany c_1847_i h_x_1877 c_1887_i h_1889; omega) | omega)) (lv_sub hl [0, 1, 2, 3] rfl)
                  · skip
                    have c_1895_i := Int32.lt_iff_toInt_lt.mp (Int32.not_le.mp c_1895)
                    have h_1897 : 1 ≤ (i_letterMany : Int32).toInt ∧ (i_letterMany : Int32).toInt ≤ 440 := nr_lt_r h_1882 h_i_letterMany c_1895_i (by decide) (by decide)
                    refine lv_aload_n hx hb dX12_known_51 rfl (lv_at hl 3 rfl) ?_
                    refine va_get (D := D) (ci := 12) (v := .ref m_letters) (C := RX12) (T := TX12) (N := 35) hx hb hts inlX12 hown hK hP 0 rfl rfl 18 (by decide) (hts (Cond.fieldLink RX12 37 "ChanceRingsModel" "letters" "[B") qw_28) (fun _ h9 => h9) rfl dX12_known_52 ?_
                    refine lv_iload_n hx hb dX12_known_55 rfl (lv_at hl 0 rfl) ?_
                    refine va_bald hx hb hK hP 1 2 rfl rfl (tr_in h_1882 (by decide) (by decide)) dX12_known_56 ?_
                    refine lv_topi (fun v_1902 v_1902_e => ?_)
                    have g_v_1902 : v_1902 = lf (x_1878.toInt.toNat) := v_1902_e.trans (congrArg lf rfl)
                    have gi_v_1902 := congrArg Int32.toInt g_v_1902
                    refine lv_goto (tgt := 61) hx hb dX12_known_57 (by decide) ?_
                    have kb_9 : pad lf (i_letterMany : Int32).toInt x_1878.toInt.toNat = v_1902.toInt := (if_pos (by (first | (clear h_i_undoMany h_i_length h_i_size h_i_p h_i_at h_i_token h_i_number h_i_faultAt h_i_isKnown h_i_toldMany c_1847_i h_x_1877 c_1887_i h_1889; omega) | omega))).trans gi_v_1902.symm
                    refine lv_icmp_ne (tgt := 68) hx hb dX12_known_61 (by decide) (fun c_1903 => ?_) (fun c_1903 => ?_)
                    · skip
                      have c_1903_i : ¬ (v_1894 : Int32).toInt = (v_1902 : Int32).toInt := (fun q => c_1903 (Int32.toInt_inj.mp q))
                      refine lv_iconst (v := 0) hx hb dX12_known_68 (by decide) ?_
                      refine lv_istore_n (lv' := [(2, .int 0), (3, .int x_1878), (1, .int x_1842), (0, .ref mm)]) hx hb dX12_known_69 rfl hl (by decide) rfl (fun ls hl => ?_)
                      obtain ⟨v_1904, v_1904_e⟩ : ∃ y : Int32, y = x_1878 + Int32.ofInt 1 := ⟨_, rfl⟩
                      have h_v_1904 : 1 ≤ (v_1904 : Int32).toInt ∧ (v_1904 : Int32).toInt ≤ 6 := by rw [v_1904_e]; exact tr_add h_1882 (⟨by decide, by decide⟩ : 1 ≤ (Int32.ofInt 1 : Int32).toInt ∧ (Int32.ofInt 1 : Int32).toInt ≤ 1) (by decide) (by decide) (by decide) (by decide)
                      have q_v_1904 : v_1904.toInt = x_1878.toInt + 1 := by rw [v_1904_e]; exact tr_addE h_1882 (⟨by decide, by decide⟩ : 1 ≤ (Int32.ofInt 1 : Int32).toInt ∧ (Int32.ofInt 1 : Int32).toInt ≤ 1) (by decide) (by decide)
                      refine lv_iinc (v := v_1904) (lv' := [(3, .int v_1904), (2, .int 0), (1, .int x_1842), (0, .ref mm)]) hx hb dX12_known_70 hl (k := 1) rfl v_1904_e.symm (by decide) rfl (fun ls hl => ?_)
                      refine lv_goto (tgt := 23) hx hb dX12_known_73 (by decide) ?_
                      exact ih_1879 0 v_1904 ls (⟨by decide, by decide⟩ : 0 ≤ (0 : Int32).toInt ∧ (0 : Int32).toInt ≤ 1) (tr_w h_v_1904 (by decide) (by decide)) ⟨fun h9 => absurd h9 (by decide), fun _ _ m9 => by have q0 := m9 x_1878.toInt.toNat (by (first | (clear h_i_undoMany h_i_length h_i_size h_i_p h_i_at h_i_token h_i_number h_i_faultAt h_i_isKnown h_i_toldMany c_1847_i h_x_1877 c_1887_i h_1889; omega) | omega)); have q1 := ka_9; have q2 := kb_9; have z_0 := tk_0; (first | (clear h_i_undoMany h_i_length h_i_size h_i_p h_i_at h_i_token h_i_number h_i_faultAt h_i_isKnown h_i_toldMany c_1847_i h_x_1877 c_1887_i h_1889; omega) | omega)⟩ (by (first | (clear h_i_undoMany h_i_length h_i_size h_i_p h_i_at h_i_token h_i_number h_i_faultAt h_i_isKnown h_i_toldMany c_1847_i h_x_1877 c_1887_i h_1889; omega) | omega)) (lv_sub hl [0, 1, 2, 3] rfl)
                    · skip
                      have c_1903_i : (v_1894 : Int32).toInt = (v_1902 : Int32).toInt := congrArg Int32.toInt c_1903
                      refine lv_iconst (v := 1) hx hb dX12_known_64 (by decide) ?_
                      refine lv_goto (tgt := 69) hx hb dX12_known_65 (by decide) ?_
                      refine lv_istore_n (lv' := [(2, .int 1), (3, .int x_1878), (1, .int x_1842), (0, .ref mm)]) hx hb dX12_known_69 rfl hl (by decide) rfl (fun ls hl => ?_)
                      obtain ⟨v_1905, v_1905_e⟩ : ∃ y : Int32, y = x_1878 + Int32.ofInt 1 := ⟨_, rfl⟩
                      have h_v_1905 : 1 ≤ (v_1905 : Int32).toInt ∧ (v_1905 : Int32).toInt ≤ 6 := by rw [v_1905_e]; exact tr_add h_1882 (⟨by decide, by decide⟩ : 1 ≤ (Int32.ofInt 1 : Int32).toInt ∧ (Int32.ofInt 1 : Int32).toInt ≤ 1) (by decide) (by decide) (by decide) (by decide)
                      have q_v_1905 : v_1905.toInt = x_1878.toInt + 1 := by rw [v_1905_e]; exact tr_addE h_1882 (⟨by decide, by decide⟩ : 1 ≤ (Int32.ofInt 1 : Int32).toInt ∧ (Int32.ofInt 1 : Int32).toInt ≤ 1) (by decide) (by decide)
                      refine lv_iinc (v := v_1905) (lv' := [(3, .int v_1905), (2, .int 1), (1, .int x_1842), (0, .ref mm)]) hx hb dX12_known_70 hl (k := 1) rfl v_1905_e.symm (by decide) rfl (fun ls hl => ?_)
                      refine lv_goto (tgt := 23) hx hb dX12_known_73 (by decide) ?_
                      exact ih_1879 1 v_1905 ls (⟨by decide, by decide⟩ : 0 ≤ (1 : Int32).toInt ∧ (1 : Int32).toInt ≤ 1) (tr_w h_v_1905 (by decide) (by decide)) ⟨fun _ => ⟨(hr1879_0.1 (by (first | (clear h_i_undoMany h_i_length h_i_size h_i_p h_i_at h_i_token h_i_number h_i_faultAt h_i_isKnown h_i_toldMany c_1847_i h_x_1877 c_1887_i h_1889; omega) | omega))).1, all_nx (hr1879_0.1 (by (first | (clear h_i_undoMany h_i_length h_i_size h_i_p h_i_at h_i_token h_i_number h_i_faultAt h_i_isKnown h_i_toldMany c_1847_i h_x_1877 c_1887_i h_1889; omega) | omega))).2 (by have q1 := ka_9; have q2 := kb_9; have z_0 := tk_0; (first | (clear h_i_undoMany h_i_length h_i_size h_i_p h_i_at h_i_token h_i_number h_i_faultAt h_i_isKnown h_i_toldMany c_1847_i h_x_1877 c_1887_i h_1889; omega) | omega)) (by (first | (clear h_i_undoMany h_i_length h_i_size h_i_p h_i_at h_i_token h_i_number h_i_faultAt h_i_isKnown h_i_toldMany c_1847_i h_x_1877 c_1887_i h_1889; omega) | omega))⟩, fun h9 => absurd h9 (by decide)⟩ (by (first | (clear h_i_undoMany h_i_length h_i_size h_i_p h_i_at h_i_token h_i_number h_i_faultAt h_i_isKnown h_i_toldMany c_1847_i h_x_1877 c_1887_i h_1889; omega) | omega)) (lv_sub hl [0, 1, 2, 3] rfl)
          exact lp_1879 7 0 0 ls (⟨by decide, by decide⟩ : 0 ≤ (0 : Int32).toInt ∧ (0 : Int32).toInt ≤ 1) (⟨by decide, by decide⟩ : 0 ≤ (0 : Int32).toInt ∧ (0 : Int32).toInt ≤ 6) ⟨fun h9 => absurd h9 (by decide), fun _ h8 => absurd h8 (by have z_1 := tk_1; (first | (clear h_i_undoMany h_i_length h_i_size h_i_p h_i_at h_i_token h_i_number h_i_letterMany h_i_faultAt h_i_isKnown h_i_toldMany h_x_1842 c_1844_i h_1846 c_1847_i; omega) | omega))⟩ (by decide) (lv_sub hl [0, 1, 2, 3] rfl)
        · skip
          have kk_1 := tk_1
          have c_1847_i : (i_token : Int32).toInt = (1 : Int32).toInt := congrArg Int32.toInt c_1847
          have h_1848 : 1 ≤ (i_token : Int32).toInt ∧ (i_token : Int32).toInt ≤ 1 := nr_eq_l h_i_token (⟨by decide, by decide⟩ : 1 ≤ (1 : Int32).toInt ∧ (1 : Int32).toInt ≤ 1) c_1847_i (by decide) (by decide)
          refine lv_iconst (v := 1) hx hb dX12_known_15 (by decide) ?_
          refine lv_goto (tgt := 20) hx hb dX12_known_16 (by decide) ?_
          refine lv_istore_n (lv' := [(2, .int 1), (1, .int x_1842), (0, .ref mm)]) hx hb dX12_known_20 rfl hl (by decide) rfl (fun ls hl => ?_)
          refine lv_iconst (v := 0) hx hb dX12_known_21 (by decide) ?_
          refine lv_istore_n (lv' := [(3, .int 0), (2, .int 1), (1, .int x_1842), (0, .ref mm)]) hx hb dX12_known_22 rfl hl (by decide) rfl (fun ls hl => ?_)
          have lp_1936 : ∀ (n_1936 : Nat) (x_1934 : Int32) (x_1935 : Int32) (ls : Array Slot), (0 ≤ (x_1934 : Int32).toInt ∧ (x_1934 : Int32).toInt ≤ 1) → (0 ≤ (x_1935 : Int32).toInt ∧ (x_1935 : Int32).toInt ≤ 6) → ((x_1934.toInt = 1 → (i_token : Int32).toInt = 1 ∧ ∀ q : Nat, q < x_1935.toInt.toNat → kw6 kf x_1842.toInt.toNat q = pad lf (i_letterMany : Int32).toInt q) ∧ (x_1934.toInt = 0 → (i_token : Int32).toInt = 1 → ¬ Mt6 (kw6 kf x_1842.toInt.toNat) (pad lf (i_letterMany : Int32).toInt))) → (6 - x_1935.toInt < (n_1936 : Int)) → lv_has ls 4 [(3, .int x_1935), (2, .int x_1934), (1, .int x_1842), (0, .ref mm)] → W p l e (headSpec (.code yX12_known cX12_known 4 (some .int) :: wsL_law) ({ frames := 0, cells := 0, slots := 0, locals := 0 })).room s m args below meth c s.heap [] 0 0 (MQ below (vp_Si (fun r => ((-1) ≤ (r : Int32).toInt ∧ (r : Int32).toInt ≤ 4) ∧ (Hide ((r : Int32).toInt = -1 → (i_token : Int32).toInt = 1 → ∀ k : Nat, k < 5 → ¬ Mt6 (kw6 kf k) (pad lf (i_letterMany : Int32).toInt))) ∧ (Hide (0 ≤ (r : Int32).toInt → (i_token : Int32).toInt = 1 ∧ Mt6 (kw6 kf (r : Int32).toInt.toNat) (pad lf (i_letterMany : Int32).toInt))))) args s 0 0 (fun _ => False)) (F0 m 23 ls []) := by
            intro n_1936
            induction n_1936 with
            | zero =>
              intro x_1934 x_1935 ls h_x_1934 h_x_1935 hr1936_0 hm_1936 hl
              exfalso; omega
            | succ n_1936 ih_1936 =>
              intro x_1934 x_1935 ls h_x_1934 h_x_1935 hr1936_0 hm_1936 hl
              refine lv_iload_n hx hb dX12_known_23 rfl (lv_at hl 0 rfl) ?_
              refine lv_bipush (v := 6) hx hb dX12_known_24 (by decide) ?_
              refine lv_icmp_ge (tgt := 76) hx hb dX12_known_26 (by decide) (fun c_1937 => ?_) (fun c_1937 => ?_)
              · skip
                have kk_6 := tk_6
                have c_1937_i := Int32.le_iff_toInt_le.mp c_1937
                have h_1938 : 6 ≤ (x_1935 : Int32).toInt ∧ (x_1935 : Int32).toInt ≤ 6 := nr_le_r (⟨by decide, by decide⟩ : 6 ≤ (6 : Int32).toInt ∧ (6 : Int32).toInt ≤ 6) h_x_1935 c_1937_i (by decide) (by decide)
                refine lv_iload_n hx hb dX12_known_76 rfl (lv_at hl 1 rfl) ?_
                refine lv_if_eq (tgt := 82) hx hb dX12_known_77 (by decide) (fun c_1940 => ?_) (fun c_1940 => ?_)
                · skip
                  have kk_0 := tk_0
                  have c_1940_i : (x_1934 : Int32).toInt = (0 : Int32).toInt := congrArg Int32.toInt c_1940
                  have h_1941 : 0 ≤ (x_1934 : Int32).toInt ∧ (x_1934 : Int32).toInt ≤ 0 := nr_eq_l h_x_1934 (⟨by decide, by decide⟩ : 0 ≤ (0 : Int32).toInt ∧ (0 : Int32).toInt ≤ 0) c_1940_i (by decide) (by decide)
                  obtain ⟨v_1943, v_1943_e⟩ : ∃ y : Int32, y = x_1842 + Int32.ofInt 1 := ⟨_, rfl⟩
                  have h_v_1943 : 1 ≤ (v_1943 : Int32).toInt ∧ (v_1943 : Int32).toInt ≤ 5 := by rw [v_1943_e]; exact tr_add h_1846 (⟨by decide, by decide⟩ : 1 ≤ (Int32.ofInt 1 : Int32).toInt ∧ (Int32.ofInt 1 : Int32).toInt ≤ 1) (by decide) (by decide) (by decide) (by decide)
                  have q_v_1943 : v_1943.toInt = x_1842.toInt + 1 := by rw [v_1943_e]; exact tr_addE h_1846 (⟨by decide, by decide⟩ : 1 ≤ (Int32.ofInt 1 : Int32).toInt ∧ (Int32.ofInt 1 : Int32).toInt ≤ 1) (by decide) (by decide)
                  refine lv_iinc (v := v_1943) (lv' := [(1, .int v_1943), (3, .int x_1935), (2, .int x_1934), (0, .ref mm)]) hx hb dX12_known_82 hl (k := 2) rfl v_1943_e.symm (by decide) rfl (fun ls hl => ?_)
                  refine lv_goto (tgt := 2) hx hb dX12_known_85 (by decide) ?_
                  exact ih_1843 v_1943 ls (tr_w h_v_1943 (by decide) (by decide)) (all_nx hr1843_0 (hr1936_0.2 (by have z_0 := tk_0; (first | (clear h_i_undoMany h_i_length h_i_size h_i_p h_i_at h_i_token h_i_number h_i_letterMany h_i_faultAt h_i_isKnown h_i_toldMany c_1847_i h_1848 h_x_1934 h_x_1935 c_1937_i h_1938 c_1940_i h_1941; omega) | omega))) (by (first | (clear h_i_undoMany h_i_length h_i_size h_i_p h_i_at h_i_token h_i_number h_i_letterMany h_i_faultAt h_i_isKnown h_i_toldMany c_1847_i h_1848 h_x_1934 h_x_1935 c_1937_i h_1938 c_1940_i h_1941; omega) | omega))) (by (first | (clear h_i_undoMany h_i_length h_i_size h_i_p h_i_at h_i_token h_i_number h_i_letterMany h_i_faultAt h_i_isKnown h_i_toldMany c_1847_i h_1848 h_x_1934 h_x_1935 c_1937_i h_1938 c_1940_i h_1941; omega) | omega)) (lv_sub hl [0, 3] rfl)
                · skip
                  have kk_0 := tk_0
                  have c_1940_i : ¬ (x_1934 : Int32).toInt = (0 : Int32).toInt := (fun q => c_1940 (Int32.toInt_inj.mp q))
                  have h_1942 : 1 ≤ (x_1934 : Int32).toInt ∧ (x_1934 : Int32).toInt ≤ 1 := nr_ne_l h_x_1934 (⟨by decide, by decide⟩ : 0 ≤ (0 : Int32).toInt ∧ (0 : Int32).toInt ≤ 0) c_1940_i (by decide) (by decide)
                  refine lv_iload_n hx hb dX12_known_80 rfl (lv_at hl 2 rfl) ?_
                  exact W.iret (v := x_1842) hx hb hr (fun t ht hW => ⟨x_1842, rfl, ⟨(tr_w h_1846 (by decide) (by decide)), (fun h9 => absurd h9 (by (first | (clear h_i_undoMany h_i_length h_i_size h_i_p h_i_at h_i_token h_i_number h_i_letterMany h_i_faultAt h_i_isKnown h_i_toldMany c_1847_i h_1848 h_x_1934 h_x_1935 c_1937_i h_1938 c_1940_i h_1942; omega) | omega))), (fun _ => ⟨(hr1936_0.1 (by have z_0 := tk_0; (first | (clear h_i_undoMany h_i_length h_i_size h_i_p h_i_at h_i_token h_i_number h_i_letterMany h_i_faultAt h_i_isKnown h_i_toldMany c_1847_i h_1848 h_x_1934 h_x_1935 c_1937_i h_1938 c_1940_i h_1942; omega) | omega))).1, fun q h9 => (hr1936_0.1 (by have z_0 := tk_0; (first | (clear h_i_undoMany h_i_length h_i_size h_i_p h_i_at h_i_token h_i_number h_i_letterMany h_i_faultAt h_i_isKnown h_i_toldMany c_1847_i h_1848 h_x_1934 h_x_1935 c_1937_i h_1938 c_1940_i h_1942; omega) | omega))).2 q (by have z_6 := tk_6; (first | (clear h_i_undoMany h_i_length h_i_size h_i_p h_i_at h_i_token h_i_number h_i_letterMany h_i_faultAt h_i_isKnown h_i_toldMany c_1847_i h_1848 h_x_1934 h_x_1935 c_1937_i h_1938 c_1940_i h_1942; omega) | omega))⟩)⟩, ht⟩) (fun _ h => nomatch h) dX12_known_81
              · skip
                have kk_6 := tk_6
                have c_1937_i := Int32.lt_iff_toInt_lt.mp (Int32.not_le.mp c_1937)
                have h_1939 : 0 ≤ (x_1935 : Int32).toInt ∧ (x_1935 : Int32).toInt ≤ 5 := nr_lt_l h_x_1935 (⟨by decide, by decide⟩ : 6 ≤ (6 : Int32).toInt ∧ (6 : Int32).toInt ≤ 6) c_1937_i (by decide) (by decide)
                refine lv_iload_n hx hb dX12_known_29 rfl (lv_at hl 1 rfl) ?_
                refine lv_if_eq (tgt := 76) hx hb dX12_known_30 (by decide) (fun c_1944 => ?_) (fun c_1944 => ?_)
                · skip
                  have kk_0 := tk_0
                  have c_1944_i : (x_1934 : Int32).toInt = (0 : Int32).toInt := congrArg Int32.toInt c_1944
                  have h_1945 : 0 ≤ (x_1934 : Int32).toInt ∧ (x_1934 : Int32).toInt ≤ 0 := nr_eq_l h_x_1934 (⟨by decide, by decide⟩ : 0 ≤ (0 : Int32).toInt ∧ (0 : Int32).toInt ≤ 0) c_1944_i (by decide) (by decide)
                  refine lv_iload_n hx hb dX12_known_76 rfl (lv_at hl 1 rfl) ?_
                  refine lv_if_eq (tgt := 82) hx hb dX12_known_77 (by decide) (fun c_1947 => ?_) (fun h9 => (nr_x_ne h_1945 (⟨by decide, by decide⟩ : 0 ≤ (0 : Int32).toInt ∧ (0 : Int32).toInt ≤ 0) (fun q => h9 (Int32.toInt_inj.mp q)) (by decide)).elim)
                  have c_1947_i : (x_1934 : Int32).toInt = (0 : Int32).toInt := congrArg Int32.toInt c_1947
                  obtain ⟨v_1948, v_1948_e⟩ : ∃ y : Int32, y = x_1842 + Int32.ofInt 1 := ⟨_, rfl⟩
                  have h_v_1948 : 1 ≤ (v_1948 : Int32).toInt ∧ (v_1948 : Int32).toInt ≤ 5 := by rw [v_1948_e]; exact tr_add h_1846 (⟨by decide, by decide⟩ : 1 ≤ (Int32.ofInt 1 : Int32).toInt ∧ (Int32.ofInt 1 : Int32).toInt ≤ 1) (by decide) (by decide) (by decide) (by decide)
                  have q_v_1948 : v_1948.toInt = x_1842.toInt + 1 := by rw [v_1948_e]; exact tr_addE h_1846 (⟨by decide, by decide⟩ : 1 ≤ (Int32.ofInt 1 : Int32).toInt ∧ (Int32.ofInt 1 : Int32).toInt ≤ 1) (by decide) (by decide)
                  refine lv_iinc (v := v_1948) (lv' := [(1, .int v_1948), (3, .int x_1935), (2, .int x_1934), (0, .ref mm)]) hx hb dX12_known_82 hl (k := 2) rfl v_1948_e.symm (by decide) rfl (fun ls hl => ?_)
                  refine lv_goto (tgt := 2) hx hb dX12_known_85 (by decide) ?_
                  exact ih_1843 v_1948 ls (tr_w h_v_1948 (by decide) (by decide)) (all_nx hr1843_0 (hr1936_0.2 (by have z_0 := tk_0; (first | (clear h_i_undoMany h_i_length h_i_size h_i_p h_i_at h_i_token h_i_number h_i_letterMany h_i_faultAt h_i_isKnown h_i_toldMany c_1847_i h_1848 h_x_1934 h_x_1935 c_1937_i h_1939 c_1944_i h_1945 c_1947_i; omega) | omega))) (by (first | (clear h_i_undoMany h_i_length h_i_size h_i_p h_i_at h_i_token h_i_number h_i_letterMany h_i_faultAt h_i_isKnown h_i_toldMany c_1847_i h_1848 h_x_1934 h_x_1935 c_1937_i h_1939 c_1944_i h_1945 c_1947_i; omega) | omega))) (by (first | (clear h_i_undoMany h_i_length h_i_size h_i_p h_i_at h_i_token h_i_number h_i_letterMany h_i_faultAt h_i_isKnown h_i_toldMany c_1847_i h_1848 h_x_1934 h_x_1935 c_1937_i h_1939 c_1944_i h_1945 c_1947_i; omega) | omega)) (lv_sub hl [0, 3] rfl)
                · skip
                  have kk_0 := tk_0
                  have c_1944_i : ¬ (x_1934 : Int32).toInt = (0 : Int32).toInt := (fun q => c_1944 (Int32.toInt_inj.mp q))
                  have h_1946 : 1 ≤ (x_1934 : Int32).toInt ∧ (x_1934 : Int32).toInt ≤ 1 := nr_ne_l h_x_1934 (⟨by decide, by decide⟩ : 0 ≤ (0 : Int32).toInt ∧ (0 : Int32).toInt ≤ 0) c_1944_i (by decide) (by decide)
                  refine va_gets hx hb hZ.1 va_S.rf hown (hts (Cond.fieldLink RX12 132 "ChanceRingsModel" "KNOWN" "[B") qw_34) (fun _ h9 => h9) dX12_known_33 ?_
                  refine lv_bipush (v := 6) hx hb dX12_known_36 (by decide) ?_
                  refine lv_iload_n hx hb dX12_known_38 rfl (lv_at hl 2 rfl) ?_
                  refine lv_imul hx hb dX12_known_39 ?_
                  refine lv_topi (fun v_1949 v_1949_e => ?_)
                  have h_v_1949 : 0 ≤ (v_1949 : Int32).toInt ∧ (v_1949 : Int32).toInt ≤ 24 := by rw [v_1949_e]; exact tr_mul (⟨by decide, by decide⟩ : 6 ≤ (6 : Int32).toInt ∧ (6 : Int32).toInt ≤ 6) h_1846 (by decide) (by decide) (by decide) (by decide)
                  have q_v_1949 : v_1949.toInt = 6 * x_1842.toInt := by rw [v_1949_e]; exact (tr_mulX (⟨by decide, by decide⟩ : 6 ≤ (6 : Int32).toInt ∧ (6 : Int32).toInt ≤ 6) h_1846 (by decide) (by decide)).trans (by rw [tk_6])
                  refine lv_iload_n hx hb dX12_known_40 rfl (lv_at hl 0 rfl) ?_
                  refine lv_iadd hx hb dX12_known_41 ?_
                  refine lv_topi (fun v_1950 v_1950_e => ?_)
                  have h_v_1950 : 0 ≤ (v_1950 : Int32).toInt ∧ (v_1950 : Int32).toInt ≤ 29 := by rw [v_1950_e]; exact tr_add h_v_1949 h_1939 (by decide) (by decide) (by decide) (by decide)
                  have q_v_1950 : v_1950.toInt = v_1949.toInt + x_1935.toInt := by rw [v_1950_e]; exact tr_addX h_v_1949 h_1939 (by decide) (by decide)
                  refine va_tb hx hb hZ.2 va_S.rf (tr_in h_v_1950 (by decide) (by decide)) rfl dX12_known_42 ?_
                  refine lv_topi (fun v_1951 v_1951_e => ?_)
                  have ka_9 : kw6 kf x_1842.toInt.toNat x_1935.toInt.toNat = v_1951.toInt := ((congrArg Int32.toInt v_1951_e).trans (congrArg (fun z9 => (kf z9).toInt) (by show Int.toNat _ = _; (first | (clear h_i_undoMany h_i_length h_i_size h_i_p h_i_at h_i_token h_i_number h_i_letterMany h_i_faultAt h_i_isKnown h_i_toldMany c_1847_i h_1848 h_x_1934 c_1944_i h_1946; omega) | omega)))).symm
                  refine lv_iload_n hx hb dX12_known_43 rfl (lv_at hl 0 rfl) ?_
                  refine lv_aload_n hx hb dX12_known_44 rfl (lv_at hl 3 rfl) ?_
                  refine va_get (D := D) (ci := 12) (v := .int i_letterMany) (C := RX12) (T := TX12) (N := 35) hx hb hts inlX12 hown hK hP 0 rfl rfl 15 (by decide) (hts (Cond.fieldLink RX12 129 "ChanceRingsModel" "letterMany" "I") qw_32) (fun _ h9 => h9) rfl dX12_known_45 ?_
                  refine lv_icmp_ge (tgt := 60) hx hb dX12_known_48 (by decide) (fun c_1952 => ?_) (fun c_1952 => ?_)
                  · skip
                    have c_1952_i := Int32.le_iff_toInt_le.mp c_1952
                    have h_1953 : (-440) ≤ (i_letterMany : Int32).toInt ∧ (i_letterMany : Int32).toInt ≤ 5 := nr_le_l h_i_letterMany h_1939 c_1952_i (by decide) (by decide)
                    refine lv_iconst (v := 0) hx hb dX12_known_60 (by decide) ?_
                    have kb_9 : pad lf (i_letterMany : Int32).toInt x_1935.toInt.toNat = 0 := if_neg (by (first | (clear h_i_undoMany h_i_length h_i_size h_i_p h_i_at h_i_token h_i_number h_i_faultAt h_i_isKnown h_i_toldMany c_1847_i h_1848 h_x_1934 c_1944_i h_1946; omega) | omega))
                    refine lv_icmp_ne (tgt := 68) hx hb dX12_known_61 (by decide) (fun c_1955 => ?_) (fun c_1955 => ?_)
                    · skip
                      have c_1955_i : ¬ (v_1951 : Int32).toInt = (0 : Int32).toInt := (fun q => c_1955 (Int32.toInt_inj.mp q))
                      refine lv_iconst (v := 0) hx hb dX12_known_68 (by decide) ?_
                      refine lv_istore_n (lv' := [(2, .int 0), (3, .int x_1935), (1, .int x_1842), (0, .ref mm)]) hx hb dX12_known_69 rfl hl (by decide) rfl (fun ls hl => ?_)
                      obtain ⟨v_1957, v_1957_e⟩ : ∃ y : Int32, y = x_1935 + Int32.ofInt 1 := ⟨_, rfl⟩
                      have h_v_1957 : 1 ≤ (v_1957 : Int32).toInt ∧ (v_1957 : Int32).toInt ≤ 6 := by rw [v_1957_e]; exact tr_add h_1939 (⟨by decide, by decide⟩ : 1 ≤ (Int32.ofInt 1 : Int32).toInt ∧ (Int32.ofInt 1 : Int32).toInt ≤ 1) (by decide) (by decide) (by decide) (by decide)
                      have q_v_1957 : v_1957.toInt = x_1935.toInt + 1 := by rw [v_1957_e]; exact tr_addE h_1939 (⟨by decide, by decide⟩ : 1 ≤ (Int32.ofInt 1 : Int32).toInt ∧ (Int32.ofInt 1 : Int32).toInt ≤ 1) (by decide) (by decide)
                      refine lv_iinc (v := v_1957) (lv' := [(3, .int v_1957), (2, .int 0), (1, .int x_1842), (0, .ref mm)]) hx hb dX12_known_70 hl (k := 1) rfl v_1957_e.symm (by decide) rfl (fun ls hl => ?_)
                      refine lv_goto (tgt := 23) hx hb dX12_known_73 (by decide) ?_
                      exact ih_1936 0 v_1957 ls (⟨by decide, by decide⟩ : 0 ≤ (0 : Int32).toInt ∧ (0 : Int32).toInt ≤ 1) (tr_w h_v_1957 (by decide) (by decide)) ⟨fun h9 => absurd h9 (by decide), fun _ _ m9 => by have q0 := m9 x_1935.toInt.toNat (by (first | (clear h_i_undoMany h_i_length h_i_size h_i_p h_i_at h_i_token h_i_number h_i_faultAt h_i_isKnown h_i_toldMany c_1847_i h_1848 h_x_1934 c_1944_i h_1946; omega) | omega)); have q1 := ka_9; have q2 := kb_9; have z_0 := tk_0; (first | (clear h_i_undoMany h_i_length h_i_size h_i_p h_i_at h_i_token h_i_number h_i_faultAt h_i_isKnown h_i_toldMany c_1847_i h_1848 h_x_1934 c_1944_i h_1946; omega) | omega)⟩ (by (first | (clear h_i_undoMany h_i_length h_i_size h_i_p h_i_at h_i_token h_i_number h_i_faultAt h_i_isKnown h_i_toldMany c_1847_i h_1848 h_x_1934 c_1944_i h_1946; omega) | omega)) (lv_sub hl [0, 1, 2, 3] rfl)
                    · skip
                      have c_1955_i : (v_1951 : Int32).toInt = (0 : Int32).toInt := congrArg Int32.toInt c_1955
                      have h_1956 : 0 ≤ (v_1951 : Int32).toInt ∧ (v_1951 : Int32).toInt ≤ 0 := by rw [c_1955]; exact ⟨by decide, by decide⟩
                      refine lv_iconst (v := 1) hx hb dX12_known_64 (by decide) ?_
                      refine lv_goto (tgt := 69) hx hb dX12_known_65 (by decide) ?_
                      refine lv_istore_n (lv' := [(2, .int 1), (3, .int x_1935), (1, .int x_1842), (0, .ref mm)]) hx hb dX12_known_69 rfl hl (by decide) rfl (fun ls hl => ?_)
                      obtain ⟨v_1958, v_1958_e⟩ : ∃ y : Int32, y = x_1935 + Int32.ofInt 1 := ⟨_, rfl⟩
                      have h_v_1958 : 1 ≤ (v_1958 : Int32).toInt ∧ (v_1958 : Int32).toInt ≤ 6 := by rw [v_1958_e]; exact tr_add h_1939 (⟨by decide, by decide⟩ : 1 ≤ (Int32.ofInt 1 : Int32).toInt ∧ (Int32.ofInt 1 : Int32).toInt ≤ 1) (by decide) (by decide) (by decide) (by decide)
                      have q_v_1958 : v_1958.toInt = x_1935.toInt + 1 := by rw [v_1958_e]; exact tr_addE h_1939 (⟨by decide, by decide⟩ : 1 ≤ (Int32.ofInt 1 : Int32).toInt ∧ (Int32.ofInt 1 : Int32).toInt ≤ 1) (by decide) (by decide)
                      refine lv_iinc (v := v_1958) (lv' := [(3, .int v_1958), (2, .int 1), (1, .int x_1842), (0, .ref mm)]) hx hb dX12_known_70 hl (k := 1) rfl v_1958_e.symm (by decide) rfl (fun ls hl => ?_)
                      refine lv_goto (tgt := 23) hx hb dX12_known_73 (by decide) ?_
                      exact ih_1936 1 v_1958 ls (⟨by decide, by decide⟩ : 0 ≤ (1 : Int32).toInt ∧ (1 : Int32).toInt ≤ 1) (tr_w h_v_1958 (by decide) (by decide)) ⟨fun _ => ⟨(hr1936_0.1 (by (first | (clear h_i_undoMany h_i_length h_i_size h_i_p h_i_at h_i_token h_i_number h_i_faultAt h_i_isKnown h_i_toldMany c_1847_i h_1848 h_x_1934 c_1944_i h_1946; omega) | omega))).1, all_nx (hr1936_0.1 (by (first | (clear h_i_undoMany h_i_length h_i_size h_i_p h_i_at h_i_token h_i_number h_i_faultAt h_i_isKnown h_i_toldMany c_1847_i h_1848 h_x_1934 c_1944_i h_1946; omega) | omega))).2 (by have q1 := ka_9; have q2 := kb_9; have z_0 := tk_0; (first | (clear h_i_undoMany h_i_length h_i_size h_i_p h_i_at h_i_token h_i_number h_i_faultAt h_i_isKnown h_i_toldMany c_1847_i h_1848 h_x_1934 c_1944_i h_1946; omega) | omega)) (by (first | (clear h_i_undoMany h_i_length h_i_size h_i_p h_i_at h_i_token h_i_number h_i_faultAt h_i_isKnown h_i_toldMany c_1847_i h_1848 h_x_1934 c_1944_i h_1946; omega) | omega))⟩, fun h9 => absurd h9 (by decide)⟩ (by (first | (clear h_i_undoMany h_i_length h_i_size h_i_p h_i_at h_i_token h_i_number h_i_faultAt h_i_isKnown h_i_toldMany c_1847_i h_1848 h_x_1934 c_1944_i h_1946; omega) | omega)) (lv_sub hl [0, 1, 2, 3] rfl)
                  · skip
                    have c_1952_i := Int32.lt_iff_toInt_lt.mp (Int32.not_le.mp c_1952)
                    have h_1954 : 1 ≤ (i_letterMany : Int32).toInt ∧ (i_letterMany : Int32).toInt ≤ 440 := nr_lt_r h_1939 h_i_letterMany c_1952_i (by decide) (by decide)
                    refine lv_aload_n hx hb dX12_known_51 rfl (lv_at hl 3 rfl) ?_
                    refine va_get (D := D) (ci := 12) (v := .ref m_letters) (C := RX12) (T := TX12) (N := 35) hx hb hts inlX12 hown hK hP 0 rfl rfl 18 (by decide) (hts (Cond.fieldLink RX12 37 "ChanceRingsModel" "letters" "[B") qw_28) (fun _ h9 => h9) rfl dX12_known_52 ?_
                    refine lv_iload_n hx hb dX12_known_55 rfl (lv_at hl 0 rfl) ?_
                    refine va_bald hx hb hK hP 1 2 rfl rfl (tr_in h_1939 (by decide) (by decide)) dX12_known_56 ?_
                    refine lv_topi (fun v_1959 v_1959_e => ?_)
                    have g_v_1959 : v_1959 = lf (x_1935.toInt.toNat) := v_1959_e.trans (congrArg lf rfl)
                    have gi_v_1959 := congrArg Int32.toInt g_v_1959
                    refine lv_goto (tgt := 61) hx hb dX12_known_57 (by decide) ?_
                    have kb_9 : pad lf (i_letterMany : Int32).toInt x_1935.toInt.toNat = v_1959.toInt := (if_pos (by (first | (clear h_i_undoMany h_i_length h_i_size h_i_p h_i_at h_i_token h_i_number h_i_faultAt h_i_isKnown h_i_toldMany c_1847_i h_1848 h_x_1934 c_1944_i h_1946; omega) | omega))).trans gi_v_1959.symm
                    refine lv_icmp_ne (tgt := 68) hx hb dX12_known_61 (by decide) (fun c_1960 => ?_) (fun c_1960 => ?_)
                    · skip
                      have c_1960_i : ¬ (v_1951 : Int32).toInt = (v_1959 : Int32).toInt := (fun q => c_1960 (Int32.toInt_inj.mp q))
                      refine lv_iconst (v := 0) hx hb dX12_known_68 (by decide) ?_
                      refine lv_istore_n (lv' := [(2, .int 0), (3, .int x_1935), (1, .int x_1842), (0, .ref mm)]) hx hb dX12_known_69 rfl hl (by decide) rfl (fun ls hl => ?_)
                      obtain ⟨v_1961, v_1961_e⟩ : ∃ y : Int32, y = x_1935 + Int32.ofInt 1 := ⟨_, rfl⟩
                      have h_v_1961 : 1 ≤ (v_1961 : Int32).toInt ∧ (v_1961 : Int32).toInt ≤ 6 := by rw [v_1961_e]; exact tr_add h_1939 (⟨by decide, by decide⟩ : 1 ≤ (Int32.ofInt 1 : Int32).toInt ∧ (Int32.ofInt 1 : Int32).toInt ≤ 1) (by decide) (by decide) (by decide) (by decide)
                      have q_v_1961 : v_1961.toInt = x_1935.toInt + 1 := by rw [v_1961_e]; exact tr_addE h_1939 (⟨by decide, by decide⟩ : 1 ≤ (Int32.ofInt 1 : Int32).toInt ∧ (Int32.ofInt 1 : Int32).toInt ≤ 1) (by decide) (by decide)
                      refine lv_iinc (v := v_1961) (lv' := [(3, .int v_1961), (2, .int 0), (1, .int x_1842), (0, .ref mm)]) hx hb dX12_known_70 hl (k := 1) rfl v_1961_e.symm (by decide) rfl (fun ls hl => ?_)
                      refine lv_goto (tgt := 23) hx hb dX12_known_73 (by decide) ?_
                      exact ih_1936 0 v_1961 ls (⟨by decide, by decide⟩ : 0 ≤ (0 : Int32).toInt ∧ (0 : Int32).toInt ≤ 1) (tr_w h_v_1961 (by decide) (by decide)) ⟨fun h9 => absurd h9 (by decide), fun _ _ m9 => by have q0 := m9 x_1935.toInt.toNat (by (first | (clear h_i_undoMany h_i_length h_i_size h_i_p h_i_at h_i_token h_i_number h_i_faultAt h_i_isKnown h_i_toldMany c_1847_i h_1848 h_x_1934 c_1944_i h_1946; omega) | omega)); have q1 := ka_9; have q2 := kb_9; have z_0 := tk_0; (first | (clear h_i_undoMany h_i_length h_i_size h_i_p h_i_at h_i_token h_i_number h_i_faultAt h_i_isKnown h_i_toldMany c_1847_i h_1848 h_x_1934 c_1944_i h_1946; omega) | omega)⟩ (by (first | (clear h_i_undoMany h_i_length h_i_size h_i_p h_i_at h_i_token h_i_number h_i_faultAt h_i_isKnown h_i_toldMany c_1847_i h_1848 h_x_1934 c_1944_i h_1946; omega) | omega)) (lv_sub hl [0, 1, 2, 3] rfl)
                    · skip
                      have c_1960_i : (v_1951 : Int32).toInt = (v_1959 : Int32).toInt := congrArg Int32.toInt c_1960
                      refine lv_iconst (v := 1) hx hb dX12_known_64 (by decide) ?_
                      refine lv_goto (tgt := 69) hx hb dX12_known_65 (by decide) ?_
                      refine lv_istore_n (lv' := [(2, .int 1), (3, .int x_1935), (1, .int x_1842), (0, .ref mm)]) hx hb dX12_known_69 rfl hl (by decide) rfl (fun ls hl => ?_)
                      obtain ⟨v_1962, v_1962_e⟩ : ∃ y : Int32, y = x_1935 + Int32.ofInt 1 := ⟨_, rfl⟩
                      have h_v_1962 : 1 ≤ (v_1962 : Int32).toInt ∧ (v_1962 : Int32).toInt ≤ 6 := by rw [v_1962_e]; exact tr_add h_1939 (⟨by decide, by decide⟩ : 1 ≤ (Int32.ofInt 1 : Int32).toInt ∧ (Int32.ofInt 1 : Int32).toInt ≤ 1) (by decide) (by decide) (by decide) (by decide)
                      have q_v_1962 : v_1962.toInt = x_1935.toInt + 1 := by rw [v_1962_e]; exact tr_addE h_1939 (⟨by decide, by decide⟩ : 1 ≤ (Int32.ofInt 1 : Int32).toInt ∧ (Int32.ofInt 1 : Int32).toInt ≤ 1) (by decide) (by decide)
                      refine lv_iinc (v := v_1962) (lv' := [(3, .int v_1962), (2, .int 1), (1, .int x_1842), (0, .ref mm)]) hx hb dX12_known_70 hl (k := 1) rfl v_1962_e.symm (by decide) rfl (fun ls hl => ?_)
                      refine lv_goto (tgt := 23) hx hb dX12_known_73 (by decide) ?_
                      exact ih_1936 1 v_1962 ls (⟨by decide, by decide⟩ : 0 ≤ (1 : Int32).toInt ∧ (1 : Int32).toInt ≤ 1) (tr_w h_v_1962 (by decide) (by decide)) ⟨fun _ => ⟨(hr1936_0.1 (by (first | (clear h_i_undoMany h_i_length h_i_size h_i_p h_i_at h_i_token h_i_number h_i_faultAt h_i_isKnown h_i_toldMany c_1847_i h_1848 h_x_1934 c_1944_i h_1946; omega) | omega))).1, all_nx (hr1936_0.1 (by (first | (clear h_i_undoMany h_i_length h_i_size h_i_p h_i_at h_i_token h_i_number h_i_faultAt h_i_isKnown h_i_toldMany c_1847_i h_1848 h_x_1934 c_1944_i h_1946; omega) | omega))).2 (by have q1 := ka_9; have q2 := kb_9; have z_0 := tk_0; (first | (clear h_i_undoMany h_i_length h_i_size h_i_p h_i_at h_i_token h_i_number h_i_faultAt h_i_isKnown h_i_toldMany c_1847_i h_1848 h_x_1934 c_1944_i h_1946; omega) | omega)) (by (first | (clear h_i_undoMany h_i_length h_i_size h_i_p h_i_at h_i_token h_i_number h_i_faultAt h_i_isKnown h_i_toldMany c_1847_i h_1848 h_x_1934 c_1944_i h_1946; omega) | omega))⟩, fun h9 => absurd h9 (by decide)⟩ (by (first | (clear h_i_undoMany h_i_length h_i_size h_i_p h_i_at h_i_token h_i_number h_i_faultAt h_i_isKnown h_i_toldMany c_1847_i h_1848 h_x_1934 c_1944_i h_1946; omega) | omega)) (lv_sub hl [0, 1, 2, 3] rfl)
          exact lp_1936 7 1 0 ls (⟨by decide, by decide⟩ : 0 ≤ (1 : Int32).toInt ∧ (1 : Int32).toInt ≤ 1) (⟨by decide, by decide⟩ : 0 ≤ (0 : Int32).toInt ∧ (0 : Int32).toInt ≤ 6) ⟨fun _ => ⟨by have z_1 := tk_1; (first | (clear h_i_undoMany h_i_length h_i_size h_i_p h_i_at h_i_token h_i_number h_i_letterMany h_i_faultAt h_i_isKnown h_i_toldMany h_x_1842 c_1844_i h_1846 c_1847_i h_1848; omega) | omega), fun q h9 => absurd h9 (Nat.not_lt_zero q)⟩, fun h9 => absurd h9 (by decide)⟩ (by decide) (lv_sub hl [0, 1, 2, 3] rfl)
  exact lp_1843 6 0 ls (⟨by decide, by decide⟩ : 0 ≤ (0 : Int32).toInt ∧ (0 : Int32).toInt ≤ 5) (fun k h9 => absurd h9 (Nat.not_lt_zero k)) (by decide) (lv_sub hl [0, 1] rfl)
set_option maxHeartbeats 4000000 in
set_option maxRecDepth 100000 in
theorem c_X12_isName (l : Launch) (D : va_G) (g : Nat → ClassId) (kn : Nat) (kf : Nat → Int32) (A : Nat → Prop) (mm : Nat) (i_thrown : Int32) (m_s : Nat) (m_spare : Nat) (m_kept : Nat) (m_undone : Nat) (m_triedWay : Nat) (m_isKept : Nat) (i_undoMany : Int32) (m_tape : Nat) (i_length : Int32) (i_size : Int32) (i_p : Int32) (i_at : Int32) (i_token : Int32) (i_number : Int32) (i_letterMany : Int32) (i_fault : Int32) (i_faultAt : Int32) (m_letters : Nat) (i_isKnown : Int32) (m_choice : Nat) (m_row : Nat) (m_up : Nat) (m_low : Nat) (m_m : Nat) (m_bestUp : Nat) (m_bestLow : Nat) (m_replyUp : Nat) (m_replyLow : Nat) (m_worthUp : Nat) (m_worthLow : Nat) (m_bestWay : Nat) (i_seed : Int32) (m_told : Nat) (i_toldMany : Int32) (lf : Nat → Int32) (h_i_undoMany : 0 ≤ (i_undoMany : Int32).toInt ∧ (i_undoMany : Int32).toInt ≤ 8) (h_i_length : 0 ≤ (i_length : Int32).toInt ∧ (i_length : Int32).toInt ≤ 440) (h_i_size : 0 ≤ (i_size : Int32).toInt ∧ (i_size : Int32).toInt ≤ 440) (h_i_p : 0 ≤ (i_p : Int32).toInt ∧ (i_p : Int32).toInt ≤ 440) (h_i_at : 0 ≤ (i_at : Int32).toInt ∧ (i_at : Int32).toInt ≤ 440) (h_i_token : 0 ≤ (i_token : Int32).toInt ∧ (i_token : Int32).toInt ≤ 4) (h_i_number : 0 ≤ (i_number : Int32).toInt ∧ (i_number : Int32).toInt ≤ 814) (h_i_letterMany : (-440) ≤ (i_letterMany : Int32).toInt ∧ (i_letterMany : Int32).toInt ≤ 440) (h_i_faultAt : 0 ≤ (i_faultAt : Int32).toInt ∧ (i_faultAt : Int32).toInt ≤ 440) (h_i_isKnown : 0 ≤ (i_isKnown : Int32).toInt ∧ (i_isKnown : Int32).toInt ≤ 1) (h_i_toldMany : 0 ≤ (i_toldMany : Int32).toInt ∧ (i_toldMany : Int32).toInt ≤ 900) (hkn : KNs kf) (hwl : (i_token : Int32).toInt = 1 → WLF lf (i_letterMany : Int32).toInt) : Met l yX12_isName (.code yX12_isName cX12_isName 1 (some .boolean) :: wsL_law) ({ frames := 1, cells := 0, slots := 0, locals := 23 }) (va_Pc [.ref mm] (fun U => va_P D vwCl [(wO12 mm i_thrown m_s m_spare m_kept m_undone m_triedWay m_isKept i_undoMany m_tape i_length i_size i_p i_at i_token i_number i_letterMany i_fault i_faultAt m_letters i_isKnown m_choice m_row m_up m_low m_m m_bestUp m_bestLow m_replyUp m_replyLow m_worthUp m_worthLow m_bestWay i_seed m_told i_toldMany), (wI g m_letters 2 6 lf)] U.heap ∧ va_K D vwCl (TY g) U ∧ ZK kn kf A U U.heap)) (vp_Si (fun r => (0 ≤ (r : Int32).toInt ∧ (r : Int32).toInt ≤ 1) ∧ (Hide (¬ (r : Int32).toInt = 0 → (i_token : Int32).toInt = 1)) ∧ (Hide (¬ (r : Int32).toInt = 0 → NMC (i_token : Int32).toInt (wcd lf (i_letterMany : Int32).toInt))) ∧ (Hide ((r : Int32).toInt = 0 → ¬ NMC (i_token : Int32).toInt (wcd lf (i_letterMany : Int32).toInt))))) 0 0 (fun _ => False) := by
  refine Met.ofW (cc := cX12_isName) (maxL := 1) (ret := (some .boolean)) (by decide) rfl ?_
  intro p e s m args below meth c s₁ B hml hv
  obtain ⟨ha, hP, hK, hZ⟩ := hv
  have hx := B.exec
  have hb := B.bytes
  have hr := B.returns
  have hts0 := atoms_spec (ws := (.code yX12_isName cX12_isName 1 (some .boolean) :: wsL_law)) B.pre
  have hts : ∀ w ∈ wsL_law, w.before args s = true := fun w h => hts0 w (List.mem_cons_of_mem _ h)
  have hown : s.vm.findClass RX12 = some m.cls := findClass_of_methodNamed B.named
  have hlocks := B.notSynchronized
  have hP : va_P D vwCl [(wO12 mm i_thrown m_s m_spare m_kept m_undone m_triedWay m_isKept i_undoMany m_tape i_length i_size i_p i_at i_token i_number i_letterMany i_fault i_faultAt m_letters i_isKnown m_choice m_row m_up m_low m_m m_bestUp m_bestLow m_replyUp m_replyLow m_worthUp m_worthLow m_bestWay i_seed m_told i_toldMany), (wI g m_letters 2 6 lf)] s.heap := hP
  refine W.eq (g2 := entryFrame m ([.ref mm] : List Value).toArray 1) (by rw [ha]) ?_
  have hl := lv_entry ([.ref mm]) (n := 1) (Nat.le_of_ble_eq_true rfl)
  rw [lg_entry_eq]
  generalize (lg_sl ([.ref mm]) ++ List.replicate (1 - (lg_sl ([.ref mm])).length) Slot.unset).toArray = ls at hl ⊢
  have hl : lv_has ls 1 [(0, .ref mm)] := hl
  refine lv_aload_n hx hb dX12_isName_0 rfl (lv_at hl 0 rfl) ?_
  refine va_get (D := D) (ci := 12) (v := .int i_token) (C := RX12) (T := TX12) (N := 35) hx hb hts inlX12 hown hK hP 0 rfl rfl 13 (by decide) (hts (Cond.fieldLink RX12 116 "ChanceRingsModel" "token" "I") qw_33) (fun _ h9 => h9) rfl dX12_isName_1 ?_
  refine lv_iconst (v := 1) hx hb dX12_isName_4 (by decide) ?_
  refine lv_icmp_ne (tgt := 19) hx hb dX12_isName_5 (by decide) (fun c_1963 => ?_) (fun c_1963 => ?_)
  · skip
    have kk_1 := tk_1
    have c_1963_i : ¬ (i_token : Int32).toInt = (1 : Int32).toInt := (fun q => c_1963 (Int32.toInt_inj.mp q))
    refine lv_iconst (v := 0) hx hb dX12_isName_19 (by decide) ?_
    exact W.zret (v := 0) hx hb hr (by decide) (fun t ht hW => ⟨0, rfl, ⟨(⟨by decide, by decide⟩ : 0 ≤ (0 : Int32).toInt ∧ (0 : Int32).toInt ≤ 1), (fun h9 => (by have z_0 := tk_0; have z_1 := tk_1; (first | (clear h_i_undoMany h_i_length h_i_size h_i_p h_i_at h_i_token h_i_number h_i_letterMany h_i_faultAt h_i_isKnown h_i_toldMany hwl c_1963_i; omega) | omega))), (fun h9 => absurd (by decide) h9), (fun _ q9 => absurd q9.1 (by have z_0 := tk_0; have z_1 := tk_1; (first | (clear h_i_undoMany h_i_length h_i_size h_i_p h_i_at h_i_token h_i_number h_i_letterMany h_i_faultAt h_i_isKnown h_i_toldMany hwl c_1963_i; omega) | omega)))⟩, ht⟩) (fun _ h => nomatch h) dX12_isName_20
  · skip
    have kk_1 := tk_1
    have c_1963_i : (i_token : Int32).toInt = (1 : Int32).toInt := congrArg Int32.toInt c_1963
    have h_1964 : 1 ≤ (i_token : Int32).toInt ∧ (i_token : Int32).toInt ≤ 1 := nr_eq_l h_i_token (⟨by decide, by decide⟩ : 1 ≤ (1 : Int32).toInt ∧ (1 : Int32).toInt ≤ 1) c_1963_i (by decide) (by decide)
    refine lv_aload_n hx hb dX12_isName_8 rfl (lv_at hl 0 rfl) ?_
    have hPc := hP.sub (ws' := [(wO12 mm i_thrown m_s m_spare m_kept m_undone m_triedWay m_isKept i_undoMany m_tape i_length i_size i_p i_at i_token i_number i_letterMany i_fault i_faultAt m_letters i_isKnown m_choice m_row m_up m_low m_m m_bestUp m_bestLow m_replyUp m_replyLow m_worthUp m_worthLow m_bestWay i_seed m_told i_toldMany), (wI g m_letters 2 6 lf)]) [0, 1] rfl
    refine vp_callSi (va_Run.run (va_runV (As := []) (rest := []) ⟨hx, hb, hml, hown, hts⟩ (c_X12_known l D g kn kf A mm i_thrown m_s m_spare m_kept m_undone m_triedWay m_isKept i_undoMany m_tape i_length i_size i_p i_at i_token i_number i_letterMany i_fault i_faultAt m_letters i_isKnown m_choice m_row m_up m_low m_m m_bestUp m_bestLow m_replyUp m_replyLow m_worthUp m_worthLow m_bestWay i_seed m_told i_toldMany lf (tr_w h_i_undoMany (by decide) (by decide)) (tr_w h_i_length (by decide) (by decide)) (tr_w h_i_size (by decide) (by decide)) (tr_w h_i_p (by decide) (by decide)) (tr_w h_i_at (by decide) (by decide)) (tr_w h_1964 (by decide) (by decide)) (tr_w h_i_number (by decide) (by decide)) (tr_w h_i_letterMany (by decide) (by decide)) (tr_w h_i_faultAt (by decide) (by decide)) (tr_w h_i_isKnown (by decide) (by decide)) (tr_w h_i_toldMany (by decide) (by decide))) (cwV 0 hts (tz_gV qw_35 qw_36 qw_37 qw_3 qw_38) rfl rfl rfl (by decide +kernel) ⟨Nat.le_of_ble_eq_true rfl, Nat.le_of_ble_eq_true rfl⟩) ⟨tz_blSK, va_recv hK hPc (ci := 12) (q0 := 0) rfl rfl, tz_preSK hPc hK (hZ.kept va_S.rf (fun _ h => h))⟩ rfl rfl hl.1 rfl (lv_room (Nat.le_of_ble_eq_true rfl)) dX12_isName_9 ⟨Nat.le_of_ble_eq_true rfl, Nat.le_of_ble_eq_true rfl⟩)) (fun r_1965 hw => ?_)
    have hw_1966 : (-1) ≤ (r_1965 : Int32).toInt ∧ (r_1965 : Int32).toInt ≤ 4 := hw.1
    have hw_1966_p0 : Hide ((r_1965 : Int32).toInt = -1 → (i_token : Int32).toInt = 1 → ∀ k : Nat, k < 5 → ¬ Mt6 (kw6 kf k) (pad lf (i_letterMany : Int32).toInt)) := hw.2.1
    have hw_1966_p1 : Hide (0 ≤ (r_1965 : Int32).toInt → (i_token : Int32).toInt = 1 ∧ Mt6 (kw6 kf (r_1965 : Int32).toInt.toNat) (pad lf (i_letterMany : Int32).toInt)) := hw.2.2
    refine lv_if_ge (tgt := 19) hx hb dX12_isName_12 (by decide) (fun c_1967 => ?_) (fun c_1967 => ?_)
    · skip
      have kk_0 := tk_0
      have c_1967_i := Int32.le_iff_toInt_le.mp c_1967
      have h_1968 : 0 ≤ (r_1965 : Int32).toInt ∧ (r_1965 : Int32).toInt ≤ 4 := nr_le_r (⟨by decide, by decide⟩ : 0 ≤ (0 : Int32).toInt ∧ (0 : Int32).toInt ≤ 0) hw_1966 c_1967_i (by decide) (by decide)
      refine lv_iconst (v := 0) hx hb dX12_isName_19 (by decide) ?_
      exact W.zret (v := 0) hx hb hr (by decide) (fun t ht hW => ⟨0, rfl, ⟨(⟨by decide, by decide⟩ : 0 ≤ (0 : Int32).toInt ∧ (0 : Int32).toInt ≤ 1), (fun h9 => (by have z_0 := tk_0; have z_1 := tk_1; (first | (clear h_i_undoMany h_i_length h_i_size h_i_p h_i_at h_i_number h_i_faultAt h_i_isKnown h_i_toldMany hw_1966 c_1967_i h_1968; omega) | omega))), (fun h9 => absurd (by decide) h9), (fun _ q9 => by have k9 := kw_kd hkn (hwl q9.1) (by have z_0 := tk_0; have z_1 := tk_1; (first | (clear h_i_undoMany h_i_length h_i_size h_i_p h_i_at h_i_number h_i_faultAt h_i_isKnown h_i_toldMany hw_1966 c_1967_i h_1968; omega) | omega)) ((hw_1966_p1).get (by have z_0 := tk_0; have z_1 := tk_1; (first | (clear h_i_undoMany h_i_length h_i_size h_i_p h_i_at h_i_number h_i_faultAt h_i_isKnown h_i_toldMany hw_1966 c_1967_i h_1968; omega) | omega))).2; have k8 := q9.2; (first | (clear h_i_undoMany h_i_length h_i_size h_i_p h_i_at h_i_number h_i_faultAt h_i_isKnown h_i_toldMany hw_1966 c_1967_i h_1968; omega) | omega))⟩, ht⟩) (fun _ h => nomatch h) dX12_isName_20
    · skip
      have kk_0 := tk_0
      have c_1967_i := Int32.lt_iff_toInt_lt.mp (Int32.not_le.mp c_1967)
      have h_1969 : (-1) ≤ (r_1965 : Int32).toInt ∧ (r_1965 : Int32).toInt ≤ (-1) := nr_lt_l hw_1966 (⟨by decide, by decide⟩ : 0 ≤ (0 : Int32).toInt ∧ (0 : Int32).toInt ≤ 0) c_1967_i (by decide) (by decide)
      refine lv_iconst (v := 1) hx hb dX12_isName_15 (by decide) ?_
      refine lv_goto (tgt := 20) hx hb dX12_isName_16 (by decide) ?_
      exact W.zret (v := 1) hx hb hr (by decide) (fun t ht hW => ⟨1, rfl, ⟨(⟨by decide, by decide⟩ : 0 ≤ (1 : Int32).toInt ∧ (1 : Int32).toInt ≤ 1), (fun h9 => (by have z_0 := tk_0; have z_1 := tk_1; (first | (clear h_i_undoMany h_i_length h_i_size h_i_p h_i_at h_i_number h_i_faultAt h_i_isKnown h_i_toldMany hw_1966 c_1967_i h_1969; omega) | omega))), (fun _ => ⟨by have z_0 := tk_0; have z_1 := tk_1; (first | (clear h_i_undoMany h_i_length h_i_size h_i_p h_i_at h_i_number h_i_faultAt h_i_isKnown h_i_toldMany hw_1966 c_1967_i h_1969; omega) | omega), kw_no hkn (hwl (by have z_0 := tk_0; have z_1 := tk_1; (first | (clear h_i_undoMany h_i_length h_i_size h_i_p h_i_at h_i_number h_i_faultAt h_i_isKnown h_i_toldMany hw_1966 c_1967_i h_1969; omega) | omega))) ((hw_1966_p0).get (by have z_0 := tk_0; have z_1 := tk_1; (first | (clear h_i_undoMany h_i_length h_i_size h_i_p h_i_at h_i_number h_i_faultAt h_i_isKnown h_i_toldMany hw_1966 c_1967_i h_1969; omega) | omega)) (by have z_0 := tk_0; have z_1 := tk_1; (first | (clear h_i_undoMany h_i_length h_i_size h_i_p h_i_at h_i_number h_i_faultAt h_i_isKnown h_i_toldMany hw_1966 c_1967_i h_1969; omega) | omega)))⟩), (fun h9 => absurd h9 (by decide))⟩, ht⟩) (fun _ h => nomatch h) dX12_isName_20
theorem qw_39 : Cond.fieldLink RX12 17 "ChanceRingsModel" "spare" "[I" ∈ wsL_law := tseg_5 (by decide +kernel) (List.mem_of_getElem? (i := 129) rfl)
theorem dX12_copies_0 : decode cX12_copies 0 = .ok (.iconst 0, 1) := by decide +kernel
theorem dX12_copies_1 : decode cX12_copies 1 = .ok (.istore 4, 2) := by decide +kernel
theorem dX12_copies_3 : decode cX12_copies 3 = .ok (.iload 4, 2) := by decide +kernel
theorem dX12_copies_5 : decode cX12_copies 5 = .ok (.sipush 193, 3) := by decide +kernel
theorem dX12_copies_8 : decode cX12_copies 8 = .ok (.if_icmp .ge 21, 3) := by decide +kernel
theorem dX12_copies_11 : decode cX12_copies 11 = .ok (.aload_n 2, 1) := by decide +kernel
theorem dX12_copies_12 : decode cX12_copies 12 = .ok (.iload_n 3, 1) := by decide +kernel
theorem dX12_copies_13 : decode cX12_copies 13 = .ok (.iload 4, 2) := by decide +kernel
theorem dX12_copies_15 : decode cX12_copies 15 = .ok (.iadd, 1) := by decide +kernel
theorem dX12_copies_16 : decode cX12_copies 16 = .ok (.aload_n 0, 1) := by decide +kernel
theorem dX12_copies_17 : decode cX12_copies 17 = .ok (.iload_n 1, 1) := by decide +kernel
theorem dX12_copies_18 : decode cX12_copies 18 = .ok (.iload 4, 2) := by decide +kernel
theorem dX12_copies_20 : decode cX12_copies 20 = .ok (.iadd, 1) := by decide +kernel
theorem dX12_copies_21 : decode cX12_copies 21 = .ok (.iaload, 1) := by decide +kernel
theorem dX12_copies_22 : decode cX12_copies 22 = .ok (.iastore, 1) := by decide +kernel
theorem dX12_copies_23 : decode cX12_copies 23 = .ok (.iinc 4 1, 3) := by decide +kernel
theorem dX12_copies_26 : decode cX12_copies 26 = .ok (.goto (-23), 3) := by decide +kernel
theorem dX12_copies_29 : decode cX12_copies 29 = .ok (.return_, 1) := by decide +kernel
theorem dX12_manyOf_0 : decode cX12_manyOf 0 = .ok (.iconst 0, 1) := by decide +kernel
theorem dX12_manyOf_1 : decode cX12_manyOf 1 = .ok (.istore_n 3, 1) := by decide +kernel
theorem dX12_manyOf_2 : decode cX12_manyOf 2 = .ok (.iconst 0, 1) := by decide +kernel
theorem dX12_manyOf_3 : decode cX12_manyOf 3 = .ok (.istore 4, 2) := by decide +kernel
theorem dX12_manyOf_5 : decode cX12_manyOf 5 = .ok (.iload 4, 2) := by decide +kernel
theorem dX12_manyOf_7 : decode cX12_manyOf 7 = .ok (.aload_n 1, 1) := by decide +kernel
theorem dX12_manyOf_8 : decode cX12_manyOf 8 = .ok (.iconst 0, 1) := by decide +kernel
theorem dX12_manyOf_9 : decode cX12_manyOf 9 = .ok (.iaload, 1) := by decide +kernel
theorem dX12_manyOf_10 : decode cX12_manyOf 10 = .ok (.if_icmp .ge 27, 3) := by decide +kernel
theorem dX12_manyOf_13 : decode cX12_manyOf 13 = .ok (.iload_n 3, 1) := by decide +kernel
theorem dX12_manyOf_14 : decode cX12_manyOf 14 = .ok (.aload_n 1, 1) := by decide +kernel
theorem dX12_manyOf_15 : decode cX12_manyOf 15 = .ok (.iconst 1, 1) := by decide +kernel
theorem dX12_manyOf_16 : decode cX12_manyOf 16 = .ok (.iload 4, 2) := by decide +kernel
theorem dX12_manyOf_18 : decode cX12_manyOf 18 = .ok (.iadd, 1) := by decide +kernel
theorem dX12_manyOf_19 : decode cX12_manyOf 19 = .ok (.iaload, 1) := by decide +kernel
theorem dX12_manyOf_20 : decode cX12_manyOf 20 = .ok (.iload_n 2, 1) := by decide +kernel
theorem dX12_manyOf_21 : decode cX12_manyOf 21 = .ok (.if_icmp .ne 7, 3) := by decide +kernel
theorem dX12_manyOf_24 : decode cX12_manyOf 24 = .ok (.iconst 1, 1) := by decide +kernel
theorem dX12_manyOf_25 : decode cX12_manyOf 25 = .ok (.goto 4, 3) := by decide +kernel
theorem dX12_manyOf_28 : decode cX12_manyOf 28 = .ok (.iconst 0, 1) := by decide +kernel
theorem dX12_manyOf_29 : decode cX12_manyOf 29 = .ok (.iadd, 1) := by decide +kernel
theorem dX12_manyOf_30 : decode cX12_manyOf 30 = .ok (.istore_n 3, 1) := by decide +kernel
theorem dX12_manyOf_31 : decode cX12_manyOf 31 = .ok (.iinc 4 1, 3) := by decide +kernel
theorem dX12_manyOf_34 : decode cX12_manyOf 34 = .ok (.goto (-29), 3) := by decide +kernel
theorem dX12_manyOf_37 : decode cX12_manyOf 37 = .ok (.iload_n 3, 1) := by decide +kernel
theorem dX12_manyOf_38 : decode cX12_manyOf 38 = .ok (.ireturn, 1) := by decide +kernel
theorem dX12_named_0 : decode cX12_named 0 = .ok (.iconst 0, 1) := by decide +kernel
theorem dX12_named_1 : decode cX12_named 1 = .ok (.istore_n 1, 1) := by decide +kernel
theorem dX12_named_2 : decode cX12_named 2 = .ok (.iload_n 1, 1) := by decide +kernel
theorem dX12_named_3 : decode cX12_named 3 = .ok (.aload_n 0, 1) := by decide +kernel
theorem dX12_named_4 : decode cX12_named 4 = .ok (.getfield 17, 3) := by decide +kernel
theorem dX12_named_7 : decode cX12_named 7 = .ok (.iconst 0, 1) := by decide +kernel
theorem dX12_named_8 : decode cX12_named 8 = .ok (.iaload, 1) := by decide +kernel
theorem dX12_named_9 : decode cX12_named 9 = .ok (.if_icmp .ge 76, 3) := by decide +kernel
theorem dX12_named_12 : decode cX12_named 12 = .ok (.iconst 1, 1) := by decide +kernel
theorem dX12_named_13 : decode cX12_named 13 = .ok (.istore_n 2, 1) := by decide +kernel
theorem dX12_named_14 : decode cX12_named 14 = .ok (.iconst 0, 1) := by decide +kernel
theorem dX12_named_15 : decode cX12_named 15 = .ok (.istore_n 3, 1) := by decide +kernel
theorem dX12_named_16 : decode cX12_named 16 = .ok (.iload_n 3, 1) := by decide +kernel
theorem dX12_named_17 : decode cX12_named 17 = .ok (.bipush 6, 2) := by decide +kernel
theorem dX12_named_19 : decode cX12_named 19 = .ok (.if_icmp .ge 54, 3) := by decide +kernel
theorem dX12_named_22 : decode cX12_named 22 = .ok (.iload_n 2, 1) := by decide +kernel
theorem dX12_named_23 : decode cX12_named 23 = .ok (.ifCond .eq 50, 3) := by decide +kernel
theorem dX12_named_26 : decode cX12_named 26 = .ok (.aload_n 0, 1) := by decide +kernel
theorem dX12_named_27 : decode cX12_named 27 = .ok (.getfield 17, 3) := by decide +kernel
theorem dX12_named_30 : decode cX12_named 30 = .ok (.bipush 121, 2) := by decide +kernel
theorem dX12_named_32 : decode cX12_named 32 = .ok (.bipush 6, 2) := by decide +kernel
theorem dX12_named_34 : decode cX12_named 34 = .ok (.iload_n 1, 1) := by decide +kernel
theorem dX12_named_35 : decode cX12_named 35 = .ok (.imul, 1) := by decide +kernel
theorem dX12_named_36 : decode cX12_named 36 = .ok (.iadd, 1) := by decide +kernel
theorem dX12_named_37 : decode cX12_named 37 = .ok (.iload_n 3, 1) := by decide +kernel
theorem dX12_named_38 : decode cX12_named 38 = .ok (.iadd, 1) := by decide +kernel
theorem dX12_named_39 : decode cX12_named 39 = .ok (.iaload, 1) := by decide +kernel
theorem dX12_named_40 : decode cX12_named 40 = .ok (.iload_n 3, 1) := by decide +kernel
theorem dX12_named_41 : decode cX12_named 41 = .ok (.aload_n 0, 1) := by decide +kernel
theorem dX12_named_42 : decode cX12_named 42 = .ok (.getfield 129, 3) := by decide +kernel
theorem dX12_named_45 : decode cX12_named 45 = .ok (.if_icmp .ge 12, 3) := by decide +kernel
theorem dX12_named_48 : decode cX12_named 48 = .ok (.aload_n 0, 1) := by decide +kernel
theorem dX12_named_49 : decode cX12_named 49 = .ok (.getfield 37, 3) := by decide +kernel
theorem dX12_named_52 : decode cX12_named 52 = .ok (.iload_n 3, 1) := by decide +kernel
theorem dX12_named_53 : decode cX12_named 53 = .ok (.baload, 1) := by decide +kernel
theorem dX12_named_54 : decode cX12_named 54 = .ok (.goto 4, 3) := by decide +kernel
theorem dX12_named_57 : decode cX12_named 57 = .ok (.iconst 0, 1) := by decide +kernel
theorem dX12_named_58 : decode cX12_named 58 = .ok (.if_icmp .ne 7, 3) := by decide +kernel
theorem dX12_named_61 : decode cX12_named 61 = .ok (.iconst 1, 1) := by decide +kernel
theorem dX12_named_62 : decode cX12_named 62 = .ok (.goto 4, 3) := by decide +kernel
theorem dX12_named_65 : decode cX12_named 65 = .ok (.iconst 0, 1) := by decide +kernel
theorem dX12_named_66 : decode cX12_named 66 = .ok (.istore_n 2, 1) := by decide +kernel
theorem dX12_named_67 : decode cX12_named 67 = .ok (.iinc 3 1, 3) := by decide +kernel
theorem dX12_named_70 : decode cX12_named 70 = .ok (.goto (-54), 3) := by decide +kernel
theorem dX12_named_73 : decode cX12_named 73 = .ok (.iload_n 2, 1) := by decide +kernel
theorem dX12_named_74 : decode cX12_named 74 = .ok (.ifCond .eq 5, 3) := by decide +kernel
theorem dX12_named_77 : decode cX12_named 77 = .ok (.iload_n 1, 1) := by decide +kernel
theorem dX12_named_78 : decode cX12_named 78 = .ok (.ireturn, 1) := by decide +kernel
theorem dX12_named_79 : decode cX12_named 79 = .ok (.iinc 1 1, 3) := by decide +kernel
theorem dX12_named_82 : decode cX12_named 82 = .ok (.goto (-80), 3) := by decide +kernel
theorem dX12_named_85 : decode cX12_named 85 = .ok (.iconst (-1), 1) := by decide +kernel
theorem dX12_named_86 : decode cX12_named 86 = .ok (.ireturn, 1) := by decide +kernel
theorem dX12_weights_0 : decode cX12_weights 0 = .ok (.iconst 0, 1) := by decide +kernel
theorem dX12_weights_1 : decode cX12_weights 1 = .ok (.istore_n 2, 1) := by decide +kernel
theorem dX12_weights_2 : decode cX12_weights 2 = .ok (.iconst 0, 1) := by decide +kernel
theorem dX12_weights_3 : decode cX12_weights 3 = .ok (.istore_n 3, 1) := by decide +kernel
theorem dX12_weights_4 : decode cX12_weights 4 = .ok (.iload_n 3, 1) := by decide +kernel
theorem dX12_weights_5 : decode cX12_weights 5 = .ok (.aload_n 0, 1) := by decide +kernel
theorem dX12_weights_6 : decode cX12_weights 6 = .ok (.bipush 25, 2) := by decide +kernel
theorem dX12_weights_8 : decode cX12_weights 8 = .ok (.iload_n 1, 1) := by decide +kernel
theorem dX12_weights_9 : decode cX12_weights 9 = .ok (.iadd, 1) := by decide +kernel
theorem dX12_weights_10 : decode cX12_weights 10 = .ok (.iaload, 1) := by decide +kernel
theorem dX12_weights_11 : decode cX12_weights 11 = .ok (.if_icmp .ge 22, 3) := by decide +kernel
theorem dX12_weights_14 : decode cX12_weights 14 = .ok (.iload_n 2, 1) := by decide +kernel
theorem dX12_weights_15 : decode cX12_weights 15 = .ok (.aload_n 0, 1) := by decide +kernel
theorem dX12_weights_16 : decode cX12_weights 16 = .ok (.bipush 73, 2) := by decide +kernel
theorem dX12_weights_18 : decode cX12_weights 18 = .ok (.iconst 3, 1) := by decide +kernel
theorem dX12_weights_19 : decode cX12_weights 19 = .ok (.iload_n 1, 1) := by decide +kernel
theorem dX12_weights_20 : decode cX12_weights 20 = .ok (.imul, 1) := by decide +kernel
theorem dX12_weights_21 : decode cX12_weights 21 = .ok (.iadd, 1) := by decide +kernel
theorem dX12_weights_22 : decode cX12_weights 22 = .ok (.iload_n 3, 1) := by decide +kernel
theorem dX12_weights_23 : decode cX12_weights 23 = .ok (.iadd, 1) := by decide +kernel
theorem dX12_weights_24 : decode cX12_weights 24 = .ok (.iaload, 1) := by decide +kernel
theorem dX12_weights_25 : decode cX12_weights 25 = .ok (.iadd, 1) := by decide +kernel
theorem dX12_weights_26 : decode cX12_weights 26 = .ok (.istore_n 2, 1) := by decide +kernel
theorem dX12_weights_27 : decode cX12_weights 27 = .ok (.iinc 3 1, 3) := by decide +kernel
theorem dX12_weights_30 : decode cX12_weights 30 = .ok (.goto (-26), 3) := by decide +kernel
theorem dX12_weights_33 : decode cX12_weights 33 = .ok (.iload_n 2, 1) := by decide +kernel
theorem dX12_weights_34 : decode cX12_weights 34 = .ok (.ireturn, 1) := by decide +kernel
theorem tk_25 : (25 : Int32).toInt = 25 := by decide
theorem tk_73 : (73 : Int32).toInt = 73 := by decide
theorem tk_121 : (121 : Int32).toInt = 121 := by decide
theorem tk_193 : (193 : Int32).toInt = 193 := by decide
set_option maxHeartbeats 4000000 in
set_option maxRecDepth 100000 in
theorem c_X12_named (l : Launch) (D : va_G) (g : Nat → ClassId) (mm : Nat) (i_thrown : Int32) (m_s : Nat) (m_spare : Nat) (m_kept : Nat) (m_undone : Nat) (m_triedWay : Nat) (m_isKept : Nat) (i_undoMany : Int32) (m_tape : Nat) (i_length : Int32) (i_size : Int32) (i_p : Int32) (i_at : Int32) (i_token : Int32) (i_number : Int32) (i_letterMany : Int32) (i_fault : Int32) (i_faultAt : Int32) (m_letters : Nat) (i_isKnown : Int32) (m_choice : Nat) (m_row : Nat) (m_up : Nat) (m_low : Nat) (m_m : Nat) (m_bestUp : Nat) (m_bestLow : Nat) (m_replyUp : Nat) (m_replyLow : Nat) (m_worthUp : Nat) (m_worthLow : Nat) (m_bestWay : Nat) (i_seed : Int32) (m_told : Nat) (i_toldMany : Int32) (spf : Nat → Int32) (lf : Nat → Int32) (h_i_undoMany : 0 ≤ (i_undoMany : Int32).toInt ∧ (i_undoMany : Int32).toInt ≤ 8) (h_i_length : 0 ≤ (i_length : Int32).toInt ∧ (i_length : Int32).toInt ≤ 440) (h_i_size : 0 ≤ (i_size : Int32).toInt ∧ (i_size : Int32).toInt ≤ 440) (h_i_p : 0 ≤ (i_p : Int32).toInt ∧ (i_p : Int32).toInt ≤ 440) (h_i_at : 0 ≤ (i_at : Int32).toInt ∧ (i_at : Int32).toInt ≤ 440) (h_i_token : 0 ≤ (i_token : Int32).toInt ∧ (i_token : Int32).toInt ≤ 4) (h_i_number : 0 ≤ (i_number : Int32).toInt ∧ (i_number : Int32).toInt ≤ 814) (h_i_letterMany : (-440) ≤ (i_letterMany : Int32).toInt ∧ (i_letterMany : Int32).toInt ≤ 440) (h_i_faultAt : 0 ≤ (i_faultAt : Int32).toInt ∧ (i_faultAt : Int32).toInt ≤ 440) (h_i_isKnown : 0 ≤ (i_isKnown : Int32).toInt ∧ (i_isKnown : Int32).toInt ≤ 1) (h_i_toldMany : 0 ≤ (i_toldMany : Int32).toInt ∧ (i_toldMany : Int32).toInt ≤ 900) (hG : GR spf) : Met l yX12_named (.code yX12_named cX12_named 4 (some .int) :: wsL_law) ({ frames := 0, cells := 0, slots := 0, locals := 0 }) (va_Pc [.ref mm] (fun U => va_P D vwCl [(wO12 mm i_thrown m_s m_spare m_kept m_undone m_triedWay m_isKept i_undoMany m_tape i_length i_size i_p i_at i_token i_number i_letterMany i_fault i_faultAt m_letters i_isKnown m_choice m_row m_up m_low m_m m_bestUp m_bestLow m_replyUp m_replyLow m_worthUp m_worthLow m_bestWay i_seed m_told i_toldMany), (wI g m_spare 0 193 spf), (wI g m_letters 2 6 lf)] U.heap ∧ va_K D vwCl (TY g) U)) (vp_Si (fun r => ((-1) ≤ (r : Int32).toInt ∧ (r : Int32).toInt ≤ 11) ∧ (Hide (0 ≤ (r : Int32).toInt → (r : Int32).toInt < (spf 0).toInt)) ∧ (Hide ((0 ≤ (r : Int32).toInt ∧ (r : Int32).toInt < (spf 0).toInt ∧ Mt6 (nm6 spf (r : Int32).toInt.toNat) (pad lf (i_letterMany : Int32).toInt) ∧ ∀ p : Nat, (p : Int) < (r : Int32).toInt → ¬ Mt6 (nm6 spf p) (pad lf (i_letterMany : Int32).toInt)) ∨ ((r : Int32).toInt = -1 ∧ ∀ p : Nat, (p : Int) < (spf 0).toInt → ¬ Mt6 (nm6 spf p) (pad lf (i_letterMany : Int32).toInt)))))) 0 0 (fun _ => False) := by
  refine Met.ofW (cc := cX12_named) (maxL := 4) (ret := (some .int)) (by decide) rfl ?_
  intro p e s m args below meth c s₁ B hml hv
  obtain ⟨ha, hP, hK⟩ := hv
  have hx := B.exec
  have hb := B.bytes
  have hr := B.returns
  have hts0 := atoms_spec (ws := (.code yX12_named cX12_named 4 (some .int) :: wsL_law)) B.pre
  have hts : ∀ w ∈ wsL_law, w.before args s = true := fun w h => hts0 w (List.mem_cons_of_mem _ h)
  have hown : s.vm.findClass RX12 = some m.cls := findClass_of_methodNamed B.named
  have hlocks := B.notSynchronized
  have hP : va_P D vwCl [(wO12 mm i_thrown m_s m_spare m_kept m_undone m_triedWay m_isKept i_undoMany m_tape i_length i_size i_p i_at i_token i_number i_letterMany i_fault i_faultAt m_letters i_isKnown m_choice m_row m_up m_low m_m m_bestUp m_bestLow m_replyUp m_replyLow m_worthUp m_worthLow m_bestWay i_seed m_told i_toldMany), (wI g m_spare 0 193 spf), (wI g m_letters 2 6 lf)] s.heap := hP
  refine W.eq (g2 := entryFrame m ([.ref mm] : List Value).toArray 4) (by rw [ha]) ?_
  have hl := lv_entry ([.ref mm]) (n := 4) (Nat.le_of_ble_eq_true rfl)
  rw [lg_entry_eq]
  generalize (lg_sl ([.ref mm]) ++ List.replicate (4 - (lg_sl ([.ref mm])).length) Slot.unset).toArray = ls at hl ⊢
  have hl : lv_has ls 4 [(0, .ref mm)] := hl
  refine lv_iconst (v := 0) hx hb dX12_named_0 (by decide) ?_
  refine lv_istore_n (lv' := [(1, .int 0), (0, .ref mm)]) hx hb dX12_named_1 rfl hl (by decide) rfl (fun ls hl => ?_)
  have lp_2034 : ∀ (n_2034 : Nat) (x_2033 : Int32) (ls : Array Slot), (0 ≤ (x_2033 : Int32).toInt ∧ (x_2033 : Int32).toInt ≤ 12) → (∀ k : Nat, k < x_2033.toInt.toNat → ¬ Mt6 (nm6 spf k) (pad lf (i_letterMany : Int32).toInt)) → (12 - x_2033.toInt < (n_2034 : Int)) → lv_has ls 4 [(1, .int x_2033), (0, .ref mm)] → W p l e (headSpec (.code yX12_named cX12_named 4 (some .int) :: wsL_law) ({ frames := 0, cells := 0, slots := 0, locals := 0 })).room s m args below meth c s.heap [] 0 0 (MQ below (vp_Si (fun r => ((-1) ≤ (r : Int32).toInt ∧ (r : Int32).toInt ≤ 11) ∧ (Hide (0 ≤ (r : Int32).toInt → (r : Int32).toInt < (spf 0).toInt)) ∧ (Hide ((0 ≤ (r : Int32).toInt ∧ (r : Int32).toInt < (spf 0).toInt ∧ Mt6 (nm6 spf (r : Int32).toInt.toNat) (pad lf (i_letterMany : Int32).toInt) ∧ ∀ p : Nat, (p : Int) < (r : Int32).toInt → ¬ Mt6 (nm6 spf p) (pad lf (i_letterMany : Int32).toInt)) ∨ ((r : Int32).toInt = -1 ∧ ∀ p : Nat, (p : Int) < (spf 0).toInt → ¬ Mt6 (nm6 spf p) (pad lf (i_letterMany : Int32).toInt)))))) args s 0 0 (fun _ => False)) (F0 m 2 ls []) := by
    intro n_2034
    induction n_2034 with
    | zero =>
      intro x_2033 ls h_x_2033 hr2034_0 hm_2034 hl
      exfalso; omega
    | succ n_2034 ih_2034 =>
      intro x_2033 ls h_x_2033 hr2034_0 hm_2034 hl
      refine lv_iload_n hx hb dX12_named_2 rfl (lv_at hl 0 rfl) ?_
      refine lv_aload_n hx hb dX12_named_3 rfl (lv_at hl 1 rfl) ?_
      refine va_get (D := D) (ci := 12) (v := .ref m_spare) (C := RX12) (T := TX12) (N := 35) hx hb hts inlX12 hown hK hP 0 rfl rfl 2 (by decide) (hts (Cond.fieldLink RX12 17 "ChanceRingsModel" "spare" "[I") qw_39) (fun _ h9 => h9) rfl dX12_named_4 ?_
      refine lv_iconst (v := 0) hx hb dX12_named_7 (by decide) ?_
      refine va_iald hx hb hK hP 1 0 rfl rfl (tz_in (by decide +kernel)) dX12_named_8 ?_
      refine lv_topi (fun v_2035 v_2035_e => ?_)
      have h_v_2035 : 0 ≤ (v_2035 : Int32).toInt ∧ (v_2035 : Int32).toInt ≤ 12 := by rw [v_2035_e]; exact gr_nodes hG (⟨by decide, by decide⟩ : 0 ≤ (0 : Int32).toInt ∧ (0 : Int32).toInt ≤ 0)
      have g_v_2035 : v_2035 = spf (0) := v_2035_e.trans (congrArg spf rfl)
      have gi_v_2035 := congrArg Int32.toInt g_v_2035
      refine lv_icmp_ge (tgt := 85) hx hb dX12_named_9 (by decide) (fun c_2036 => ?_) (fun c_2036 => ?_)
      · skip
        have c_2036_i := Int32.le_iff_toInt_le.mp c_2036
        refine lv_iconst (v := (-1)) hx hb dX12_named_85 (by decide) ?_
        exact W.iret (v := (-1)) hx hb hr (fun t ht hW => ⟨(-1), rfl, ⟨(⟨by decide, by decide⟩ : (-1) ≤ ((-1) : Int32).toInt ∧ ((-1) : Int32).toInt ≤ 11), (fun h9 => by have z1 := tk_m1; (first | (clear h_i_undoMany h_i_length h_i_size h_i_p h_i_at h_i_token h_i_number h_i_letterMany h_i_faultAt h_i_isKnown h_i_toldMany; omega) | omega)), (Or.inr ⟨tk_m1, fun k h9 => hr2034_0 k (by have q7 := gi_v_2035; (first | (clear h_i_undoMany h_i_length h_i_size h_i_p h_i_at h_i_token h_i_number h_i_letterMany h_i_faultAt h_i_isKnown h_i_toldMany; omega) | omega))⟩)⟩, ht⟩) (fun _ h => nomatch h) dX12_named_86
      · skip
        have c_2036_i := Int32.lt_iff_toInt_lt.mp (Int32.not_le.mp c_2036)
        have h_2037 : 0 ≤ (x_2033 : Int32).toInt ∧ (x_2033 : Int32).toInt ≤ 11 := nr_lt_l h_x_2033 h_v_2035 c_2036_i (by decide) (by decide)
        have h_2038 : 1 ≤ (v_2035 : Int32).toInt ∧ (v_2035 : Int32).toInt ≤ 12 := nr_lt_r h_x_2033 h_v_2035 c_2036_i (by decide) (by decide)
        refine lv_iconst (v := 1) hx hb dX12_named_12 (by decide) ?_
        refine lv_istore_n (lv' := [(2, .int 1), (1, .int x_2033), (0, .ref mm)]) hx hb dX12_named_13 rfl hl (by decide) rfl (fun ls hl => ?_)
        refine lv_iconst (v := 0) hx hb dX12_named_14 (by decide) ?_
        refine lv_istore_n (lv' := [(3, .int 0), (2, .int 1), (1, .int x_2033), (0, .ref mm)]) hx hb dX12_named_15 rfl hl (by decide) rfl (fun ls hl => ?_)
        have lp_2070 : ∀ (n_2070 : Nat) (x_2068 : Int32) (x_2069 : Int32) (ls : Array Slot), (0 ≤ (x_2068 : Int32).toInt ∧ (x_2068 : Int32).toInt ≤ 1) → (0 ≤ (x_2069 : Int32).toInt ∧ (x_2069 : Int32).toInt ≤ 6) → ((x_2068.toInt = 1 → ∀ q : Nat, q < x_2069.toInt.toNat → nm6 spf x_2033.toInt.toNat q = pad lf (i_letterMany : Int32).toInt q) ∧ (x_2068.toInt = 0 → ¬ Mt6 (nm6 spf x_2033.toInt.toNat) (pad lf (i_letterMany : Int32).toInt))) → (6 - x_2069.toInt < (n_2070 : Int)) → lv_has ls 4 [(3, .int x_2069), (2, .int x_2068), (1, .int x_2033), (0, .ref mm)] → W p l e (headSpec (.code yX12_named cX12_named 4 (some .int) :: wsL_law) ({ frames := 0, cells := 0, slots := 0, locals := 0 })).room s m args below meth c s.heap [] 0 0 (MQ below (vp_Si (fun r => ((-1) ≤ (r : Int32).toInt ∧ (r : Int32).toInt ≤ 11) ∧ (Hide (0 ≤ (r : Int32).toInt → (r : Int32).toInt < (spf 0).toInt)) ∧ (Hide ((0 ≤ (r : Int32).toInt ∧ (r : Int32).toInt < (spf 0).toInt ∧ Mt6 (nm6 spf (r : Int32).toInt.toNat) (pad lf (i_letterMany : Int32).toInt) ∧ ∀ p : Nat, (p : Int) < (r : Int32).toInt → ¬ Mt6 (nm6 spf p) (pad lf (i_letterMany : Int32).toInt)) ∨ ((r : Int32).toInt = -1 ∧ ∀ p : Nat, (p : Int) < (spf 0).toInt → ¬ Mt6 (nm6 spf p) (pad lf (i_letterMany : Int32).toInt)))))) args s 0 0 (fun _ => False)) (F0 m 16 ls []) := by
          intro n_2070
          induction n_2070 with
          | zero =>
            intro x_2068 x_2069 ls h_x_2068 h_x_2069 hr2070_0 hm_2070 hl
            exfalso; omega
          | succ n_2070 ih_2070 =>
            intro x_2068 x_2069 ls h_x_2068 h_x_2069 hr2070_0 hm_2070 hl
            refine lv_iload_n hx hb dX12_named_16 rfl (lv_at hl 0 rfl) ?_
            refine lv_bipush (v := 6) hx hb dX12_named_17 (by decide) ?_
            refine lv_icmp_ge (tgt := 73) hx hb dX12_named_19 (by decide) (fun c_2071 => ?_) (fun c_2071 => ?_)
            · skip
              have kk_6 := tk_6
              have c_2071_i := Int32.le_iff_toInt_le.mp c_2071
              have h_2072 : 6 ≤ (x_2069 : Int32).toInt ∧ (x_2069 : Int32).toInt ≤ 6 := nr_le_r (⟨by decide, by decide⟩ : 6 ≤ (6 : Int32).toInt ∧ (6 : Int32).toInt ≤ 6) h_x_2069 c_2071_i (by decide) (by decide)
              refine lv_iload_n hx hb dX12_named_73 rfl (lv_at hl 1 rfl) ?_
              refine lv_if_eq (tgt := 79) hx hb dX12_named_74 (by decide) (fun c_2074 => ?_) (fun c_2074 => ?_)
              · skip
                have kk_0 := tk_0
                have c_2074_i : (x_2068 : Int32).toInt = (0 : Int32).toInt := congrArg Int32.toInt c_2074
                have h_2075 : 0 ≤ (x_2068 : Int32).toInt ∧ (x_2068 : Int32).toInt ≤ 0 := nr_eq_l h_x_2068 (⟨by decide, by decide⟩ : 0 ≤ (0 : Int32).toInt ∧ (0 : Int32).toInt ≤ 0) c_2074_i (by decide) (by decide)
                obtain ⟨v_2077, v_2077_e⟩ : ∃ y : Int32, y = x_2033 + Int32.ofInt 1 := ⟨_, rfl⟩
                have h_v_2077 : 1 ≤ (v_2077 : Int32).toInt ∧ (v_2077 : Int32).toInt ≤ 12 := by rw [v_2077_e]; exact tr_add h_2037 (⟨by decide, by decide⟩ : 1 ≤ (Int32.ofInt 1 : Int32).toInt ∧ (Int32.ofInt 1 : Int32).toInt ≤ 1) (by decide) (by decide) (by decide) (by decide)
                have q_v_2077 : v_2077.toInt = x_2033.toInt + 1 := by rw [v_2077_e]; exact tr_addE h_2037 (⟨by decide, by decide⟩ : 1 ≤ (Int32.ofInt 1 : Int32).toInt ∧ (Int32.ofInt 1 : Int32).toInt ≤ 1) (by decide) (by decide)
                refine lv_iinc (v := v_2077) (lv' := [(1, .int v_2077), (3, .int x_2069), (2, .int x_2068), (0, .ref mm)]) hx hb dX12_named_79 hl (k := 2) rfl v_2077_e.symm (by decide) rfl (fun ls hl => ?_)
                refine lv_goto (tgt := 2) hx hb dX12_named_82 (by decide) ?_
                exact ih_2034 v_2077 ls (tr_w h_v_2077 (by decide) (by decide)) (all_nx hr2034_0 (hr2070_0.2 (by have z_0 := tk_0; (first | (clear h_i_undoMany h_i_length h_i_size h_i_p h_i_at h_i_token h_i_number h_i_letterMany h_i_faultAt h_i_isKnown h_i_toldMany h_x_2068 h_x_2069 c_2071_i h_2072 c_2074_i h_2075; omega) | omega))) (by (first | (clear h_i_undoMany h_i_length h_i_size h_i_p h_i_at h_i_token h_i_number h_i_letterMany h_i_faultAt h_i_isKnown h_i_toldMany h_x_2068 h_x_2069 c_2071_i h_2072 c_2074_i h_2075; omega) | omega))) (by (first | (clear h_i_undoMany h_i_length h_i_size h_i_p h_i_at h_i_token h_i_number h_i_letterMany h_i_faultAt h_i_isKnown h_i_toldMany h_x_2068 h_x_2069 c_2071_i h_2072 c_2074_i h_2075; omega) | omega)) (lv_sub hl [0, 3] rfl)
              · skip
                have kk_0 := tk_0
                have c_2074_i : ¬ (x_2068 : Int32).toInt = (0 : Int32).toInt := (fun q => c_2074 (Int32.toInt_inj.mp q))
                have h_2076 : 1 ≤ (x_2068 : Int32).toInt ∧ (x_2068 : Int32).toInt ≤ 1 := nr_ne_l h_x_2068 (⟨by decide, by decide⟩ : 0 ≤ (0 : Int32).toInt ∧ (0 : Int32).toInt ≤ 0) c_2074_i (by decide) (by decide)
                refine lv_iload_n hx hb dX12_named_77 rfl (lv_at hl 2 rfl) ?_
                exact W.iret (v := x_2033) hx hb hr (fun t ht hW => ⟨x_2033, rfl, ⟨(tr_w h_2037 (by decide) (by decide)), (fun _ => by have q8 := congrArg Int32.toInt g_v_2035; (first | (clear h_i_undoMany h_i_length h_i_size h_i_p h_i_at h_i_token h_i_number h_i_letterMany h_i_faultAt h_i_isKnown h_i_toldMany h_x_2068 h_x_2069 c_2071_i h_2072 c_2074_i h_2076; omega) | omega)), (Or.inl ⟨by (first | (clear h_i_undoMany h_i_length h_i_size h_i_p h_i_at h_i_token h_i_number h_i_letterMany h_i_faultAt h_i_isKnown h_i_toldMany h_x_2068 h_x_2069 c_2071_i h_2072 c_2074_i h_2076; omega) | omega), by have q7 := gi_v_2035; (first | (clear h_i_undoMany h_i_length h_i_size h_i_p h_i_at h_i_token h_i_number h_i_letterMany h_i_faultAt h_i_isKnown h_i_toldMany h_x_2068 h_x_2069 c_2071_i h_2072 c_2074_i h_2076; omega) | omega), fun q h9 => hr2070_0.1 (by have z_0 := tk_0; (first | (clear h_i_undoMany h_i_length h_i_size h_i_p h_i_at h_i_token h_i_number h_i_letterMany h_i_faultAt h_i_isKnown h_i_toldMany h_x_2068 h_x_2069 c_2071_i h_2072 c_2074_i h_2076; omega) | omega)) q (by have z_6 := tk_6; (first | (clear h_i_undoMany h_i_length h_i_size h_i_p h_i_at h_i_token h_i_number h_i_letterMany h_i_faultAt h_i_isKnown h_i_toldMany h_x_2068 h_x_2069 c_2071_i h_2072 c_2074_i h_2076; omega) | omega)), fun k h9 => hr2034_0 k (by (first | (clear h_i_undoMany h_i_length h_i_size h_i_p h_i_at h_i_token h_i_number h_i_letterMany h_i_faultAt h_i_isKnown h_i_toldMany h_x_2068 h_x_2069 c_2071_i h_2072 c_2074_i h_2076; omega) | omega))⟩)⟩, ht⟩) (fun _ h => nomatch h) dX12_named_78
            · skip
              have kk_6 := tk_6
              have c_2071_i := Int32.lt_iff_toInt_lt.mp (Int32.not_le.mp c_2071)
              have h_2073 : 0 ≤ (x_2069 : Int32).toInt ∧ (x_2069 : Int32).toInt ≤ 5 := nr_lt_l h_x_2069 (⟨by decide, by decide⟩ : 6 ≤ (6 : Int32).toInt ∧ (6 : Int32).toInt ≤ 6) c_2071_i (by decide) (by decide)
              refine lv_iload_n hx hb dX12_named_22 rfl (lv_at hl 1 rfl) ?_
              refine lv_if_eq (tgt := 73) hx hb dX12_named_23 (by decide) (fun c_2078 => ?_) (fun c_2078 => ?_)
              · skip
                have kk_0 := tk_0
                have c_2078_i : (x_2068 : Int32).toInt = (0 : Int32).toInt := congrArg Int32.toInt c_2078
                have h_2079 : 0 ≤ (x_2068 : Int32).toInt ∧ (x_2068 : Int32).toInt ≤ 0 := nr_eq_l h_x_2068 (⟨by decide, by decide⟩ : 0 ≤ (0 : Int32).toInt ∧ (0 : Int32).toInt ≤ 0) c_2078_i (by decide) (by decide)
                refine lv_iload_n hx hb dX12_named_73 rfl (lv_at hl 1 rfl) ?_
                refine lv_if_eq (tgt := 79) hx hb dX12_named_74 (by decide) (fun c_2081 => ?_) (fun h9 => (nr_x_ne h_2079 (⟨by decide, by decide⟩ : 0 ≤ (0 : Int32).toInt ∧ (0 : Int32).toInt ≤ 0) (fun q => h9 (Int32.toInt_inj.mp q)) (by decide)).elim)
                have c_2081_i : (x_2068 : Int32).toInt = (0 : Int32).toInt := congrArg Int32.toInt c_2081
                obtain ⟨v_2082, v_2082_e⟩ : ∃ y : Int32, y = x_2033 + Int32.ofInt 1 := ⟨_, rfl⟩
                have h_v_2082 : 1 ≤ (v_2082 : Int32).toInt ∧ (v_2082 : Int32).toInt ≤ 12 := by rw [v_2082_e]; exact tr_add h_2037 (⟨by decide, by decide⟩ : 1 ≤ (Int32.ofInt 1 : Int32).toInt ∧ (Int32.ofInt 1 : Int32).toInt ≤ 1) (by decide) (by decide) (by decide) (by decide)
                have q_v_2082 : v_2082.toInt = x_2033.toInt + 1 := by rw [v_2082_e]; exact tr_addE h_2037 (⟨by decide, by decide⟩ : 1 ≤ (Int32.ofInt 1 : Int32).toInt ∧ (Int32.ofInt 1 : Int32).toInt ≤ 1) (by decide) (by decide)
                refine lv_iinc (v := v_2082) (lv' := [(1, .int v_2082), (3, .int x_2069), (2, .int x_2068), (0, .ref mm)]) hx hb dX12_named_79 hl (k := 2) rfl v_2082_e.symm (by decide) rfl (fun ls hl => ?_)
                refine lv_goto (tgt := 2) hx hb dX12_named_82 (by decide) ?_
                exact ih_2034 v_2082 ls (tr_w h_v_2082 (by decide) (by decide)) (all_nx hr2034_0 (hr2070_0.2 (by have z_0 := tk_0; (first | (clear h_i_undoMany h_i_length h_i_size h_i_p h_i_at h_i_token h_i_number h_i_letterMany h_i_faultAt h_i_isKnown h_i_toldMany h_x_2068 h_x_2069 c_2071_i h_2073 c_2078_i h_2079 c_2081_i; omega) | omega))) (by (first | (clear h_i_undoMany h_i_length h_i_size h_i_p h_i_at h_i_token h_i_number h_i_letterMany h_i_faultAt h_i_isKnown h_i_toldMany h_x_2068 h_x_2069 c_2071_i h_2073 c_2078_i h_2079 c_2081_i; omega) | omega))) (by (first | (clear h_i_undoMany h_i_length h_i_size h_i_p h_i_at h_i_token h_i_number h_i_letterMany h_i_faultAt h_i_isKnown h_i_toldMany h_x_2068 h_x_2069 c_2071_i h_2073 c_2078_i h_2079 c_2081_i; omega) | omega)) (lv_sub hl [0, 3] rfl)
              · skip
                have kk_0 := tk_0
                have c_2078_i : ¬ (x_2068 : Int32).toInt = (0 : Int32).toInt := (fun q => c_2078 (Int32.toInt_inj.mp q))
                have h_2080 : 1 ≤ (x_2068 : Int32).toInt ∧ (x_2068 : Int32).toInt ≤ 1 := nr_ne_l h_x_2068 (⟨by decide, by decide⟩ : 0 ≤ (0 : Int32).toInt ∧ (0 : Int32).toInt ≤ 0) c_2078_i (by decide) (by decide)
                refine lv_aload_n hx hb dX12_named_26 rfl (lv_at hl 3 rfl) ?_
                refine va_get (D := D) (ci := 12) (v := .ref m_spare) (C := RX12) (T := TX12) (N := 35) hx hb hts inlX12 hown hK hP 0 rfl rfl 2 (by decide) (hts (Cond.fieldLink RX12 17 "ChanceRingsModel" "spare" "[I") qw_39) (fun _ h9 => h9) rfl dX12_named_27 ?_
                refine lv_bipush (v := 121) hx hb dX12_named_30 (by decide) ?_
                refine lv_bipush (v := 6) hx hb dX12_named_32 (by decide) ?_
                refine lv_iload_n hx hb dX12_named_34 rfl (lv_at hl 2 rfl) ?_
                refine lv_imul hx hb dX12_named_35 ?_
                refine lv_topi (fun v_2083 v_2083_e => ?_)
                have h_v_2083 : 0 ≤ (v_2083 : Int32).toInt ∧ (v_2083 : Int32).toInt ≤ 66 := by rw [v_2083_e]; exact tr_mul (⟨by decide, by decide⟩ : 6 ≤ (6 : Int32).toInt ∧ (6 : Int32).toInt ≤ 6) h_2037 (by decide) (by decide) (by decide) (by decide)
                have q_v_2083 : v_2083.toInt = 6 * x_2033.toInt := by rw [v_2083_e]; exact (tr_mulX (⟨by decide, by decide⟩ : 6 ≤ (6 : Int32).toInt ∧ (6 : Int32).toInt ≤ 6) h_2037 (by decide) (by decide)).trans (by rw [tk_6])
                refine lv_iadd hx hb dX12_named_36 ?_
                refine lv_topi (fun v_2084 v_2084_e => ?_)
                have h_v_2084 : 121 ≤ (v_2084 : Int32).toInt ∧ (v_2084 : Int32).toInt ≤ 187 := by rw [v_2084_e]; exact tr_add (⟨by decide, by decide⟩ : 121 ≤ (121 : Int32).toInt ∧ (121 : Int32).toInt ≤ 121) h_v_2083 (by decide) (by decide) (by decide) (by decide)
                have q_v_2084 : v_2084.toInt = 121 + v_2083.toInt := by rw [v_2084_e]; exact (tr_addX (⟨by decide, by decide⟩ : 121 ≤ (121 : Int32).toInt ∧ (121 : Int32).toInt ≤ 121) h_v_2083 (by decide) (by decide)).trans (by rw [tk_121])
                refine lv_iload_n hx hb dX12_named_37 rfl (lv_at hl 0 rfl) ?_
                refine lv_iadd hx hb dX12_named_38 ?_
                refine lv_topi (fun v_2085 v_2085_e => ?_)
                have h_v_2085 : 121 ≤ (v_2085 : Int32).toInt ∧ (v_2085 : Int32).toInt ≤ 192 := by rw [v_2085_e]; exact tr_add h_v_2084 h_2073 (by decide) (by decide) (by decide) (by decide)
                have q_v_2085 : v_2085.toInt = v_2084.toInt + x_2069.toInt := by rw [v_2085_e]; exact tr_addX h_v_2084 h_2073 (by decide) (by decide)
                refine va_iald hx hb hK hP 1 0 rfl rfl (tr_in h_v_2085 (by decide) (by decide)) dX12_named_39 ?_
                refine lv_topi (fun v_2086 v_2086_e => ?_)
                have g_v_2086 : v_2086 = spf (121 + 6 * x_2033.toInt.toNat + x_2069.toInt.toNat) := v_2086_e.trans (congrArg spf (by show Int.toNat _ = _; (first | (clear h_i_undoMany h_i_length h_i_size h_i_p h_i_at h_i_token h_i_number h_i_letterMany h_i_faultAt h_i_isKnown h_i_toldMany h_x_2068 c_2078_i h_2080; omega) | omega)))
                have gi_v_2086 := congrArg Int32.toInt g_v_2086
                have ka_9 : nm6 spf x_2033.toInt.toNat x_2069.toInt.toNat = v_2086.toInt := (gi_v_2086.trans (congrArg (fun z9 => (spf z9).toInt) (by (first | (clear h_i_undoMany h_i_length h_i_size h_i_p h_i_at h_i_token h_i_number h_i_letterMany h_i_faultAt h_i_isKnown h_i_toldMany h_x_2068 c_2078_i h_2080; omega) | omega)))).symm
                refine lv_iload_n hx hb dX12_named_40 rfl (lv_at hl 0 rfl) ?_
                refine lv_aload_n hx hb dX12_named_41 rfl (lv_at hl 3 rfl) ?_
                refine va_get (D := D) (ci := 12) (v := .int i_letterMany) (C := RX12) (T := TX12) (N := 35) hx hb hts inlX12 hown hK hP 0 rfl rfl 15 (by decide) (hts (Cond.fieldLink RX12 129 "ChanceRingsModel" "letterMany" "I") qw_32) (fun _ h9 => h9) rfl dX12_named_42 ?_
                refine lv_icmp_ge (tgt := 57) hx hb dX12_named_45 (by decide) (fun c_2087 => ?_) (fun c_2087 => ?_)
                · skip
                  have c_2087_i := Int32.le_iff_toInt_le.mp c_2087
                  have h_2088 : (-440) ≤ (i_letterMany : Int32).toInt ∧ (i_letterMany : Int32).toInt ≤ 5 := nr_le_l h_i_letterMany h_2073 c_2087_i (by decide) (by decide)
                  refine lv_iconst (v := 0) hx hb dX12_named_57 (by decide) ?_
                  have kb_9 : pad lf (i_letterMany : Int32).toInt x_2069.toInt.toNat = 0 := if_neg (by (first | (clear h_i_undoMany h_i_length h_i_size h_i_p h_i_at h_i_token h_i_number h_i_faultAt h_i_isKnown h_i_toldMany h_x_2068 c_2078_i h_2080; omega) | omega))
                  refine lv_icmp_ne (tgt := 65) hx hb dX12_named_58 (by decide) (fun c_2090 => ?_) (fun c_2090 => ?_)
                  · skip
                    have c_2090_i : ¬ (v_2086 : Int32).toInt = (0 : Int32).toInt := (fun q => c_2090 (Int32.toInt_inj.mp q))
                    refine lv_iconst (v := 0) hx hb dX12_named_65 (by decide) ?_
                    refine lv_istore_n (lv' := [(2, .int 0), (3, .int x_2069), (1, .int x_2033), (0, .ref mm)]) hx hb dX12_named_66 rfl hl (by decide) rfl (fun ls hl => ?_)
                    obtain ⟨v_2092, v_2092_e⟩ : ∃ y : Int32, y = x_2069 + Int32.ofInt 1 := ⟨_, rfl⟩
                    have h_v_2092 : 1 ≤ (v_2092 : Int32).toInt ∧ (v_2092 : Int32).toInt ≤ 6 := by rw [v_2092_e]; exact tr_add h_2073 (⟨by decide, by decide⟩ : 1 ≤ (Int32.ofInt 1 : Int32).toInt ∧ (Int32.ofInt 1 : Int32).toInt ≤ 1) (by decide) (by decide) (by decide) (by decide)
                    have q_v_2092 : v_2092.toInt = x_2069.toInt + 1 := by rw [v_2092_e]; exact tr_addE h_2073 (⟨by decide, by decide⟩ : 1 ≤ (Int32.ofInt 1 : Int32).toInt ∧ (Int32.ofInt 1 : Int32).toInt ≤ 1) (by decide) (by decide)
                    refine lv_iinc (v := v_2092) (lv' := [(3, .int v_2092), (2, .int 0), (1, .int x_2033), (0, .ref mm)]) hx hb dX12_named_67 hl (k := 1) rfl v_2092_e.symm (by decide) rfl (fun ls hl => ?_)
                    refine lv_goto (tgt := 16) hx hb dX12_named_70 (by decide) ?_
                    exact ih_2070 0 v_2092 ls (⟨by decide, by decide⟩ : 0 ≤ (0 : Int32).toInt ∧ (0 : Int32).toInt ≤ 1) (tr_w h_v_2092 (by decide) (by decide)) ⟨fun h9 => absurd h9 (by decide), fun _ m9 => by have q0 := m9 x_2069.toInt.toNat (by (first | (clear h_i_undoMany h_i_length h_i_size h_i_p h_i_at h_i_token h_i_number h_i_faultAt h_i_isKnown h_i_toldMany h_x_2068 c_2078_i h_2080; omega) | omega)); have q1 := ka_9; have q2 := kb_9; have z_0 := tk_0; (first | (clear h_i_undoMany h_i_length h_i_size h_i_p h_i_at h_i_token h_i_number h_i_faultAt h_i_isKnown h_i_toldMany h_x_2068 c_2078_i h_2080; omega) | omega)⟩ (by (first | (clear h_i_undoMany h_i_length h_i_size h_i_p h_i_at h_i_token h_i_number h_i_faultAt h_i_isKnown h_i_toldMany h_x_2068 c_2078_i h_2080; omega) | omega)) (lv_sub hl [0, 1, 2, 3] rfl)
                  · skip
                    have c_2090_i : (v_2086 : Int32).toInt = (0 : Int32).toInt := congrArg Int32.toInt c_2090
                    have h_2091 : 0 ≤ (v_2086 : Int32).toInt ∧ (v_2086 : Int32).toInt ≤ 0 := by rw [c_2090]; exact ⟨by decide, by decide⟩
                    refine lv_iconst (v := 1) hx hb dX12_named_61 (by decide) ?_
                    refine lv_goto (tgt := 66) hx hb dX12_named_62 (by decide) ?_
                    refine lv_istore_n (lv' := [(2, .int 1), (3, .int x_2069), (1, .int x_2033), (0, .ref mm)]) hx hb dX12_named_66 rfl hl (by decide) rfl (fun ls hl => ?_)
                    obtain ⟨v_2093, v_2093_e⟩ : ∃ y : Int32, y = x_2069 + Int32.ofInt 1 := ⟨_, rfl⟩
                    have h_v_2093 : 1 ≤ (v_2093 : Int32).toInt ∧ (v_2093 : Int32).toInt ≤ 6 := by rw [v_2093_e]; exact tr_add h_2073 (⟨by decide, by decide⟩ : 1 ≤ (Int32.ofInt 1 : Int32).toInt ∧ (Int32.ofInt 1 : Int32).toInt ≤ 1) (by decide) (by decide) (by decide) (by decide)
                    have q_v_2093 : v_2093.toInt = x_2069.toInt + 1 := by rw [v_2093_e]; exact tr_addE h_2073 (⟨by decide, by decide⟩ : 1 ≤ (Int32.ofInt 1 : Int32).toInt ∧ (Int32.ofInt 1 : Int32).toInt ≤ 1) (by decide) (by decide)
                    refine lv_iinc (v := v_2093) (lv' := [(3, .int v_2093), (2, .int 1), (1, .int x_2033), (0, .ref mm)]) hx hb dX12_named_67 hl (k := 1) rfl v_2093_e.symm (by decide) rfl (fun ls hl => ?_)
                    refine lv_goto (tgt := 16) hx hb dX12_named_70 (by decide) ?_
                    exact ih_2070 1 v_2093 ls (⟨by decide, by decide⟩ : 0 ≤ (1 : Int32).toInt ∧ (1 : Int32).toInt ≤ 1) (tr_w h_v_2093 (by decide) (by decide)) ⟨fun _ => all_nx (hr2070_0.1 (by (first | (clear h_i_undoMany h_i_length h_i_size h_i_p h_i_at h_i_token h_i_number h_i_faultAt h_i_isKnown h_i_toldMany h_x_2068 c_2078_i h_2080; omega) | omega))) (by have q1 := ka_9; have q2 := kb_9; have z_0 := tk_0; (first | (clear h_i_undoMany h_i_length h_i_size h_i_p h_i_at h_i_token h_i_number h_i_faultAt h_i_isKnown h_i_toldMany h_x_2068 c_2078_i h_2080; omega) | omega)) (by (first | (clear h_i_undoMany h_i_length h_i_size h_i_p h_i_at h_i_token h_i_number h_i_faultAt h_i_isKnown h_i_toldMany h_x_2068 c_2078_i h_2080; omega) | omega)), fun h9 => absurd h9 (by decide)⟩ (by (first | (clear h_i_undoMany h_i_length h_i_size h_i_p h_i_at h_i_token h_i_number h_i_faultAt h_i_isKnown h_i_toldMany h_x_2068 c_2078_i h_2080; omega) | omega)) (lv_sub hl [0, 1, 2, 3] rfl)
                · skip
                  have c_2087_i := Int32.lt_iff_toInt_lt.mp (Int32.not_le.mp c_2087)
                  have h_2089 : 1 ≤ (i_letterMany : Int32).toInt ∧ (i_letterMany : Int32).toInt ≤ 440 := nr_lt_r h_2073 h_i_letterMany c_2087_i (by decide) (by decide)
                  refine lv_aload_n hx hb dX12_named_48 rfl (lv_at hl 3 rfl) ?_
                  refine va_get (D := D) (ci := 12) (v := .ref m_letters) (C := RX12) (T := TX12) (N := 35) hx hb hts inlX12 hown hK hP 0 rfl rfl 18 (by decide) (hts (Cond.fieldLink RX12 37 "ChanceRingsModel" "letters" "[B") qw_28) (fun _ h9 => h9) rfl dX12_named_49 ?_
                  refine lv_iload_n hx hb dX12_named_52 rfl (lv_at hl 0 rfl) ?_
                  refine va_bald hx hb hK hP 2 2 rfl rfl (tr_in h_2073 (by decide) (by decide)) dX12_named_53 ?_
                  refine lv_topi (fun v_2094 v_2094_e => ?_)
                  have g_v_2094 : v_2094 = lf (x_2069.toInt.toNat) := v_2094_e.trans (congrArg lf rfl)
                  have gi_v_2094 := congrArg Int32.toInt g_v_2094
                  refine lv_goto (tgt := 58) hx hb dX12_named_54 (by decide) ?_
                  have kb_9 : pad lf (i_letterMany : Int32).toInt x_2069.toInt.toNat = v_2094.toInt := (if_pos (by (first | (clear h_i_undoMany h_i_length h_i_size h_i_p h_i_at h_i_token h_i_number h_i_faultAt h_i_isKnown h_i_toldMany h_x_2068 c_2078_i h_2080; omega) | omega))).trans gi_v_2094.symm
                  refine lv_icmp_ne (tgt := 65) hx hb dX12_named_58 (by decide) (fun c_2095 => ?_) (fun c_2095 => ?_)
                  · skip
                    have c_2095_i : ¬ (v_2086 : Int32).toInt = (v_2094 : Int32).toInt := (fun q => c_2095 (Int32.toInt_inj.mp q))
                    refine lv_iconst (v := 0) hx hb dX12_named_65 (by decide) ?_
                    refine lv_istore_n (lv' := [(2, .int 0), (3, .int x_2069), (1, .int x_2033), (0, .ref mm)]) hx hb dX12_named_66 rfl hl (by decide) rfl (fun ls hl => ?_)
                    obtain ⟨v_2096, v_2096_e⟩ : ∃ y : Int32, y = x_2069 + Int32.ofInt 1 := ⟨_, rfl⟩
                    have h_v_2096 : 1 ≤ (v_2096 : Int32).toInt ∧ (v_2096 : Int32).toInt ≤ 6 := by rw [v_2096_e]; exact tr_add h_2073 (⟨by decide, by decide⟩ : 1 ≤ (Int32.ofInt 1 : Int32).toInt ∧ (Int32.ofInt 1 : Int32).toInt ≤ 1) (by decide) (by decide) (by decide) (by decide)
                    have q_v_2096 : v_2096.toInt = x_2069.toInt + 1 := by rw [v_2096_e]; exact tr_addE h_2073 (⟨by decide, by decide⟩ : 1 ≤ (Int32.ofInt 1 : Int32).toInt ∧ (Int32.ofInt 1 : Int32).toInt ≤ 1) (by decide) (by decide)
                    refine lv_iinc (v := v_2096) (lv' := [(3, .int v_2096), (2, .int 0), (1, .int x_2033), (0, .ref mm)]) hx hb dX12_named_67 hl (k := 1) rfl v_2096_e.symm (by decide) rfl (fun ls hl => ?_)
                    refine lv_goto (tgt := 16) hx hb dX12_named_70 (by decide) ?_
                    exact ih_2070 0 v_2096 ls (⟨by decide, by decide⟩ : 0 ≤ (0 : Int32).toInt ∧ (0 : Int32).toInt ≤ 1) (tr_w h_v_2096 (by decide) (by decide)) ⟨fun h9 => absurd h9 (by decide), fun _ m9 => by have q0 := m9 x_2069.toInt.toNat (by (first | (clear h_i_undoMany h_i_length h_i_size h_i_p h_i_at h_i_token h_i_number h_i_faultAt h_i_isKnown h_i_toldMany h_x_2068 c_2078_i h_2080; omega) | omega)); have q1 := ka_9; have q2 := kb_9; have z_0 := tk_0; (first | (clear h_i_undoMany h_i_length h_i_size h_i_p h_i_at h_i_token h_i_number h_i_faultAt h_i_isKnown h_i_toldMany h_x_2068 c_2078_i h_2080; omega) | omega)⟩ (by (first | (clear h_i_undoMany h_i_length h_i_size h_i_p h_i_at h_i_token h_i_number h_i_faultAt h_i_isKnown h_i_toldMany h_x_2068 c_2078_i h_2080; omega) | omega)) (lv_sub hl [0, 1, 2, 3] rfl)
                  · skip
                    have c_2095_i : (v_2086 : Int32).toInt = (v_2094 : Int32).toInt := congrArg Int32.toInt c_2095
                    refine lv_iconst (v := 1) hx hb dX12_named_61 (by decide) ?_
                    refine lv_goto (tgt := 66) hx hb dX12_named_62 (by decide) ?_
                    refine lv_istore_n (lv' := [(2, .int 1), (3, .int x_2069), (1, .int x_2033), (0, .ref mm)]) hx hb dX12_named_66 rfl hl (by decide) rfl (fun ls hl => ?_)
                    obtain ⟨v_2097, v_2097_e⟩ : ∃ y : Int32, y = x_2069 + Int32.ofInt 1 := ⟨_, rfl⟩
                    have h_v_2097 : 1 ≤ (v_2097 : Int32).toInt ∧ (v_2097 : Int32).toInt ≤ 6 := by rw [v_2097_e]; exact tr_add h_2073 (⟨by decide, by decide⟩ : 1 ≤ (Int32.ofInt 1 : Int32).toInt ∧ (Int32.ofInt 1 : Int32).toInt ≤ 1) (by decide) (by decide) (by decide) (by decide)
                    have q_v_2097 : v_2097.toInt = x_2069.toInt + 1 := by rw [v_2097_e]; exact tr_addE h_2073 (⟨by decide, by decide⟩ : 1 ≤ (Int32.ofInt 1 : Int32).toInt ∧ (Int32.ofInt 1 : Int32).toInt ≤ 1) (by decide) (by decide)
                    refine lv_iinc (v := v_2097) (lv' := [(3, .int v_2097), (2, .int 1), (1, .int x_2033), (0, .ref mm)]) hx hb dX12_named_67 hl (k := 1) rfl v_2097_e.symm (by decide) rfl (fun ls hl => ?_)
                    refine lv_goto (tgt := 16) hx hb dX12_named_70 (by decide) ?_
                    exact ih_2070 1 v_2097 ls (⟨by decide, by decide⟩ : 0 ≤ (1 : Int32).toInt ∧ (1 : Int32).toInt ≤ 1) (tr_w h_v_2097 (by decide) (by decide)) ⟨fun _ => all_nx (hr2070_0.1 (by (first | (clear h_i_undoMany h_i_length h_i_size h_i_p h_i_at h_i_token h_i_number h_i_faultAt h_i_isKnown h_i_toldMany h_x_2068 c_2078_i h_2080; omega) | omega))) (by have q1 := ka_9; have q2 := kb_9; have z_0 := tk_0; (first | (clear h_i_undoMany h_i_length h_i_size h_i_p h_i_at h_i_token h_i_number h_i_faultAt h_i_isKnown h_i_toldMany h_x_2068 c_2078_i h_2080; omega) | omega)) (by (first | (clear h_i_undoMany h_i_length h_i_size h_i_p h_i_at h_i_token h_i_number h_i_faultAt h_i_isKnown h_i_toldMany h_x_2068 c_2078_i h_2080; omega) | omega)), fun h9 => absurd h9 (by decide)⟩ (by (first | (clear h_i_undoMany h_i_length h_i_size h_i_p h_i_at h_i_token h_i_number h_i_faultAt h_i_isKnown h_i_toldMany h_x_2068 c_2078_i h_2080; omega) | omega)) (lv_sub hl [0, 1, 2, 3] rfl)
        exact lp_2070 7 1 0 ls (⟨by decide, by decide⟩ : 0 ≤ (1 : Int32).toInt ∧ (1 : Int32).toInt ≤ 1) (⟨by decide, by decide⟩ : 0 ≤ (0 : Int32).toInt ∧ (0 : Int32).toInt ≤ 6) ⟨fun _ => fun q h9 => absurd h9 (Nat.not_lt_zero q), fun h9 => absurd h9 (by decide)⟩ (by decide) (lv_sub hl [0, 1, 2, 3] rfl)
  exact lp_2034 13 0 ls (⟨by decide, by decide⟩ : 0 ≤ (0 : Int32).toInt ∧ (0 : Int32).toInt ≤ 12) (fun k h9 => absurd h9 (Nat.not_lt_zero k)) (by decide) (lv_sub hl [0, 1] rfl)
set_option maxHeartbeats 4000000 in
set_option maxRecDepth 100000 in
theorem c_X12_manyOf (l : Launch) (D : va_G) (g : Nat → ClassId) (mm : Nat) (rw : Nat) (p1 : Int32) (i_thrown : Int32) (m_s : Nat) (m_spare : Nat) (m_kept : Nat) (m_undone : Nat) (m_triedWay : Nat) (m_isKept : Nat) (i_undoMany : Int32) (m_tape : Nat) (i_length : Int32) (i_size : Int32) (i_p : Int32) (i_at : Int32) (i_token : Int32) (i_number : Int32) (i_letterMany : Int32) (i_fault : Int32) (i_faultAt : Int32) (m_letters : Nat) (i_isKnown : Int32) (m_choice : Nat) (m_row : Nat) (m_up : Nat) (m_low : Nat) (m_m : Nat) (m_bestUp : Nat) (m_bestLow : Nat) (m_replyUp : Nat) (m_replyLow : Nat) (m_worthUp : Nat) (m_worthLow : Nat) (m_bestWay : Nat) (i_seed : Int32) (m_told : Nat) (i_toldMany : Int32) (rf : Nat → Int32) (h_i_undoMany : 0 ≤ (i_undoMany : Int32).toInt ∧ (i_undoMany : Int32).toInt ≤ 8) (h_i_length : 0 ≤ (i_length : Int32).toInt ∧ (i_length : Int32).toInt ≤ 440) (h_i_size : 0 ≤ (i_size : Int32).toInt ∧ (i_size : Int32).toInt ≤ 440) (h_i_p : 0 ≤ (i_p : Int32).toInt ∧ (i_p : Int32).toInt ≤ 440) (h_i_at : 0 ≤ (i_at : Int32).toInt ∧ (i_at : Int32).toInt ≤ 440) (h_i_token : 0 ≤ (i_token : Int32).toInt ∧ (i_token : Int32).toInt ≤ 4) (h_i_number : 0 ≤ (i_number : Int32).toInt ∧ (i_number : Int32).toInt ≤ 814) (h_i_letterMany : (-440) ≤ (i_letterMany : Int32).toInt ∧ (i_letterMany : Int32).toInt ≤ 440) (h_i_faultAt : 0 ≤ (i_faultAt : Int32).toInt ∧ (i_faultAt : Int32).toInt ≤ 440) (h_i_isKnown : 0 ≤ (i_isKnown : Int32).toInt ∧ (i_isKnown : Int32).toInt ≤ 1) (h_i_toldMany : 0 ≤ (i_toldMany : Int32).toInt ∧ (i_toldMany : Int32).toInt ≤ 900) (hG : GR rf) : Met l yX12_manyOf (.code yX12_manyOf cX12_manyOf 5 (some .int) :: wsL_law) ({ frames := 0, cells := 0, slots := 0, locals := 0 }) (va_Pc [.ref mm, .ref rw, .int p1] (fun U => va_P D vwCl [(wO12 mm i_thrown m_s m_spare m_kept m_undone m_triedWay m_isKept i_undoMany m_tape i_length i_size i_p i_at i_token i_number i_letterMany i_fault i_faultAt m_letters i_isKnown m_choice m_row m_up m_low m_m m_bestUp m_bestLow m_replyUp m_replyLow m_worthUp m_worthLow m_bestWay i_seed m_told i_toldMany), (wI g rw 0 193 rf)] U.heap ∧ va_K D vwCl (TY g) U)) (vp_Si (fun r => (0 ≤ (r : Int32).toInt ∧ (r : Int32).toInt ≤ 12) ∧ ((r : Int32).toInt = gc rf (p1 : Int32).toInt (rf 0).toInt.toNat))) 0 0 (fun _ => False) := by
  refine Met.ofW (cc := cX12_manyOf) (maxL := 5) (ret := (some .int)) (by decide) rfl ?_
  intro p e s m args below meth c s₁ B hml hv
  obtain ⟨ha, hP, hK⟩ := hv
  have hx := B.exec
  have hb := B.bytes
  have hr := B.returns
  have hts0 := atoms_spec (ws := (.code yX12_manyOf cX12_manyOf 5 (some .int) :: wsL_law)) B.pre
  have hts : ∀ w ∈ wsL_law, w.before args s = true := fun w h => hts0 w (List.mem_cons_of_mem _ h)
  have hown : s.vm.findClass RX12 = some m.cls := findClass_of_methodNamed B.named
  have hlocks := B.notSynchronized
  have hP : va_P D vwCl [(wO12 mm i_thrown m_s m_spare m_kept m_undone m_triedWay m_isKept i_undoMany m_tape i_length i_size i_p i_at i_token i_number i_letterMany i_fault i_faultAt m_letters i_isKnown m_choice m_row m_up m_low m_m m_bestUp m_bestLow m_replyUp m_replyLow m_worthUp m_worthLow m_bestWay i_seed m_told i_toldMany), (wI g rw 0 193 rf)] s.heap := hP
  refine W.eq (g2 := entryFrame m ([.ref mm, .ref rw, .int p1] : List Value).toArray 5) (by rw [ha]) ?_
  have hl := lv_entry ([.ref mm, .ref rw, .int p1]) (n := 5) (Nat.le_of_ble_eq_true rfl)
  rw [lg_entry_eq]
  generalize (lg_sl ([.ref mm, .ref rw, .int p1]) ++ List.replicate (5 - (lg_sl ([.ref mm, .ref rw, .int p1])).length) Slot.unset).toArray = ls at hl ⊢
  have hl : lv_has ls 5 [(0, .ref mm), (1, .ref rw), (2, .int p1)] := hl
  refine lv_iconst (v := 0) hx hb dX12_manyOf_0 (by decide) ?_
  refine lv_istore_n (lv' := [(3, .int 0), (0, .ref mm), (1, .ref rw), (2, .int p1)]) hx hb dX12_manyOf_1 rfl hl (by decide) rfl (fun ls hl => ?_)
  refine lv_iconst (v := 0) hx hb dX12_manyOf_2 (by decide) ?_
  refine lv_istore (lv' := [(4, .int 0), (3, .int 0), (0, .ref mm), (1, .ref rw), (2, .int p1)]) hx hb dX12_manyOf_3 hl (by decide) rfl (fun ls hl => ?_)
  have lp_2113 : ∀ (n_2113 : Nat) (x_2111 : Int32) (x_2112 : Int32) (ls : Array Slot), (0 ≤ (x_2111 : Int32).toInt ∧ (x_2111 : Int32).toInt ≤ 12) → (0 ≤ (x_2112 : Int32).toInt ∧ (x_2112 : Int32).toInt ≤ 12) → (x_2111.toInt = gc rf (p1 : Int32).toInt x_2112.toInt.toNat) → (x_2111.toInt ≤ x_2112.toInt ∧ x_2112.toInt ≤ (rf 0).toInt) → (12 - x_2112.toInt < (n_2113 : Int)) → lv_has ls 5 [(4, .int x_2112), (3, .int x_2111), (0, .ref mm), (1, .ref rw), (2, .int p1)] → W p l e (headSpec (.code yX12_manyOf cX12_manyOf 5 (some .int) :: wsL_law) ({ frames := 0, cells := 0, slots := 0, locals := 0 })).room s m args below meth c s.heap [] 0 0 (MQ below (vp_Si (fun r => (0 ≤ (r : Int32).toInt ∧ (r : Int32).toInt ≤ 12) ∧ ((r : Int32).toInt = gc rf (p1 : Int32).toInt (rf 0).toInt.toNat))) args s 0 0 (fun _ => False)) (F0 m 5 ls []) := by
    intro n_2113
    induction n_2113 with
    | zero =>
      intro x_2111 x_2112 ls h_x_2111 h_x_2112 hr2113_0 hr2113_1 hm_2113 hl
      exfalso; omega
    | succ n_2113 ih_2113 =>
      intro x_2111 x_2112 ls h_x_2111 h_x_2112 hr2113_0 hr2113_1 hm_2113 hl
      refine lv_iload hx hb dX12_manyOf_5 (lv_at hl 0 rfl) ?_
      refine lv_aload_n hx hb dX12_manyOf_7 rfl (lv_at hl 3 rfl) ?_
      refine lv_iconst (v := 0) hx hb dX12_manyOf_8 (by decide) ?_
      refine va_iald hx hb hK hP 1 0 rfl rfl (tz_in (by decide +kernel)) dX12_manyOf_9 ?_
      refine lv_topi (fun v_2114 v_2114_e => ?_)
      have h_v_2114 : 0 ≤ (v_2114 : Int32).toInt ∧ (v_2114 : Int32).toInt ≤ 12 := by rw [v_2114_e]; exact gr_nodes hG (⟨by decide, by decide⟩ : 0 ≤ (0 : Int32).toInt ∧ (0 : Int32).toInt ≤ 0)
      have g_v_2114 : v_2114 = rf (0) := v_2114_e.trans (congrArg rf rfl)
      have gi_v_2114 := congrArg Int32.toInt g_v_2114
      refine lv_icmp_ge (tgt := 37) hx hb dX12_manyOf_10 (by decide) (fun c_2115 => ?_) (fun c_2115 => ?_)
      · skip
        have c_2115_i := Int32.le_iff_toInt_le.mp c_2115
        refine lv_iload_n hx hb dX12_manyOf_37 rfl (lv_at hl 1 rfl) ?_
        exact W.iret (v := x_2111) hx hb hr (fun t ht hW => ⟨x_2111, rfl, ⟨(tr_w h_x_2111 (by decide) (by decide)), (hr2113_0.trans (congrArg (gc rf (p1 : Int32).toInt) (by have q8 := congrArg Int32.toInt g_v_2114; (first | (clear h_i_undoMany h_i_length h_i_size h_i_p h_i_at h_i_token h_i_number h_i_letterMany h_i_faultAt h_i_isKnown h_i_toldMany; omega) | omega))))⟩, ht⟩) (fun _ h => nomatch h) dX12_manyOf_38
      · skip
        have c_2115_i := Int32.lt_iff_toInt_lt.mp (Int32.not_le.mp c_2115)
        have h_2116 : 0 ≤ (x_2112 : Int32).toInt ∧ (x_2112 : Int32).toInt ≤ 11 := nr_lt_l h_x_2112 h_v_2114 c_2115_i (by decide) (by decide)
        have h_2117 : 1 ≤ (v_2114 : Int32).toInt ∧ (v_2114 : Int32).toInt ≤ 12 := nr_lt_r h_x_2112 h_v_2114 c_2115_i (by decide) (by decide)
        refine lv_iload_n hx hb dX12_manyOf_13 rfl (lv_at hl 1 rfl) ?_
        refine lv_aload_n hx hb dX12_manyOf_14 rfl (lv_at hl 3 rfl) ?_
        refine lv_iconst (v := 1) hx hb dX12_manyOf_15 (by decide) ?_
        refine lv_iload hx hb dX12_manyOf_16 (lv_at hl 0 rfl) ?_
        refine lv_iadd hx hb dX12_manyOf_18 ?_
        refine lv_topi (fun v_2118 v_2118_e => ?_)
        have h_v_2118 : 1 ≤ (v_2118 : Int32).toInt ∧ (v_2118 : Int32).toInt ≤ 12 := by rw [v_2118_e]; exact tr_add (⟨by decide, by decide⟩ : 1 ≤ (1 : Int32).toInt ∧ (1 : Int32).toInt ≤ 1) h_2116 (by decide) (by decide) (by decide) (by decide)
        have q_v_2118 : v_2118.toInt = 1 + x_2112.toInt := by rw [v_2118_e]; exact (tr_addX (⟨by decide, by decide⟩ : 1 ≤ (1 : Int32).toInt ∧ (1 : Int32).toInt ≤ 1) h_2116 (by decide) (by decide)).trans (by rw [tk_1])
        refine va_iald hx hb hK hP 1 0 rfl rfl (tr_in h_v_2118 (by decide) (by decide)) dX12_manyOf_19 ?_
        refine lv_topi (fun v_2119 v_2119_e => ?_)
        have h_v_2119 : 0 ≤ (v_2119 : Int32).toInt ∧ (v_2119 : Int32).toInt ≤ 3 := by rw [v_2119_e]; exact gr_kind hG (tr_w h_v_2118 (by decide) (by decide))
        have g_v_2119 : v_2119 = rf (1 + x_2112.toInt.toNat) := v_2119_e.trans (congrArg rf (by show Int.toNat _ = _; (first | (clear h_i_undoMany h_i_length h_i_size h_i_p h_i_at h_i_token h_i_number h_i_letterMany h_i_faultAt h_i_isKnown h_i_toldMany h_x_2111; omega) | omega)))
        have gi_v_2119 := congrArg Int32.toInt g_v_2119
        refine lv_iload_n hx hb dX12_manyOf_20 rfl (lv_at hl 4 rfl) ?_
        refine lv_icmp_ne (tgt := 28) hx hb dX12_manyOf_21 (by decide) (fun c_2120 => ?_) (fun c_2120 => ?_)
        · skip
          have c_2120_i : ¬ (v_2119 : Int32).toInt = (p1 : Int32).toInt := (fun q => c_2120 (Int32.toInt_inj.mp q))
          refine lv_iconst (v := 0) hx hb dX12_manyOf_28 (by decide) ?_
          refine lv_iadd hx hb dX12_manyOf_29 ?_
          refine lv_topi (fun v_2121 v_2121_e => ?_)
          have h_v_2121 : 0 ≤ (v_2121 : Int32).toInt ∧ (v_2121 : Int32).toInt ≤ 12 := by rw [v_2121_e]; exact tr_add h_x_2111 (⟨by decide, by decide⟩ : 0 ≤ (0 : Int32).toInt ∧ (0 : Int32).toInt ≤ 0) (by decide) (by decide) (by decide) (by decide)
          have q_v_2121 : v_2121.toInt = x_2111.toInt + 0 := by rw [v_2121_e]; exact tr_addE h_x_2111 (⟨by decide, by decide⟩ : 0 ≤ (0 : Int32).toInt ∧ (0 : Int32).toInt ≤ 0) (by decide) (by decide)
          refine lv_istore_n (lv' := [(3, .int v_2121), (4, .int x_2112), (0, .ref mm), (1, .ref rw), (2, .int p1)]) hx hb dX12_manyOf_30 rfl hl (by decide) rfl (fun ls hl => ?_)
          obtain ⟨v_2122, v_2122_e⟩ : ∃ y : Int32, y = x_2112 + Int32.ofInt 1 := ⟨_, rfl⟩
          have h_v_2122 : 1 ≤ (v_2122 : Int32).toInt ∧ (v_2122 : Int32).toInt ≤ 12 := by rw [v_2122_e]; exact tr_add h_2116 (⟨by decide, by decide⟩ : 1 ≤ (Int32.ofInt 1 : Int32).toInt ∧ (Int32.ofInt 1 : Int32).toInt ≤ 1) (by decide) (by decide) (by decide) (by decide)
          have q_v_2122 : v_2122.toInt = x_2112.toInt + 1 := by rw [v_2122_e]; exact tr_addE h_2116 (⟨by decide, by decide⟩ : 1 ≤ (Int32.ofInt 1 : Int32).toInt ∧ (Int32.ofInt 1 : Int32).toInt ≤ 1) (by decide) (by decide)
          refine lv_iinc (v := v_2122) (lv' := [(4, .int v_2122), (3, .int v_2121), (0, .ref mm), (1, .ref rw), (2, .int p1)]) hx hb dX12_manyOf_31 hl (k := 1) rfl v_2122_e.symm (by decide) rfl (fun ls hl => ?_)
          refine lv_goto (tgt := 5) hx hb dX12_manyOf_34 (by decide) ?_
          exact ih_2113 v_2121 v_2122 ls (tr_w h_v_2121 (by decide) (by decide)) (tr_w h_v_2122 (by decide) (by decide)) ((gc_next (d' := 0) (t := v_2121.toInt) (j := v_2122.toInt.toNat) hr2113_0 g_v_2119 (by (first | (clear h_i_undoMany h_i_length h_i_size h_i_p h_i_at h_i_token h_i_number h_i_letterMany h_i_faultAt h_i_isKnown h_i_toldMany; omega) | omega))).2 (by (first | (clear h_i_undoMany h_i_length h_i_size h_i_p h_i_at h_i_token h_i_number h_i_letterMany h_i_faultAt h_i_isKnown h_i_toldMany; omega) | omega)) (by (first | (clear h_i_undoMany h_i_length h_i_size h_i_p h_i_at h_i_token h_i_number h_i_letterMany h_i_faultAt h_i_isKnown h_i_toldMany; omega) | omega))) (by have z_0 := tk_0; have q9 := hG.1; have q8 := congrArg Int32.toInt g_v_2114; (first | (clear h_i_undoMany h_i_length h_i_size h_i_p h_i_at h_i_token h_i_number h_i_letterMany h_i_faultAt h_i_isKnown h_i_toldMany; omega) | omega)) (by (first | (clear h_i_undoMany h_i_length h_i_size h_i_p h_i_at h_i_token h_i_number h_i_letterMany h_i_faultAt h_i_isKnown h_i_toldMany; omega) | omega)) (lv_sub hl [0, 1, 2, 3, 4] rfl)
        · skip
          have c_2120_i : (v_2119 : Int32).toInt = (p1 : Int32).toInt := congrArg Int32.toInt c_2120
          refine lv_iconst (v := 1) hx hb dX12_manyOf_24 (by decide) ?_
          refine lv_goto (tgt := 29) hx hb dX12_manyOf_25 (by decide) ?_
          refine lv_iadd hx hb dX12_manyOf_29 ?_
          refine lv_topi (fun v_2123 v_2123_e => ?_)
          have h_v_2123 : 1 ≤ (v_2123 : Int32).toInt ∧ (v_2123 : Int32).toInt ≤ 13 := by rw [v_2123_e]; exact tr_add h_x_2111 (⟨by decide, by decide⟩ : 1 ≤ (1 : Int32).toInt ∧ (1 : Int32).toInt ≤ 1) (by decide) (by decide) (by decide) (by decide)
          have q_v_2123 : v_2123.toInt = x_2111.toInt + 1 := by rw [v_2123_e]; exact tr_addE h_x_2111 (⟨by decide, by decide⟩ : 1 ≤ (1 : Int32).toInt ∧ (1 : Int32).toInt ≤ 1) (by decide) (by decide)
          refine lv_istore_n (lv' := [(3, .int v_2123), (4, .int x_2112), (0, .ref mm), (1, .ref rw), (2, .int p1)]) hx hb dX12_manyOf_30 rfl hl (by decide) rfl (fun ls hl => ?_)
          obtain ⟨v_2124, v_2124_e⟩ : ∃ y : Int32, y = x_2112 + Int32.ofInt 1 := ⟨_, rfl⟩
          have h_v_2124 : 1 ≤ (v_2124 : Int32).toInt ∧ (v_2124 : Int32).toInt ≤ 12 := by rw [v_2124_e]; exact tr_add h_2116 (⟨by decide, by decide⟩ : 1 ≤ (Int32.ofInt 1 : Int32).toInt ∧ (Int32.ofInt 1 : Int32).toInt ≤ 1) (by decide) (by decide) (by decide) (by decide)
          have q_v_2124 : v_2124.toInt = x_2112.toInt + 1 := by rw [v_2124_e]; exact tr_addE h_2116 (⟨by decide, by decide⟩ : 1 ≤ (Int32.ofInt 1 : Int32).toInt ∧ (Int32.ofInt 1 : Int32).toInt ≤ 1) (by decide) (by decide)
          refine lv_iinc (v := v_2124) (lv' := [(4, .int v_2124), (3, .int v_2123), (0, .ref mm), (1, .ref rw), (2, .int p1)]) hx hb dX12_manyOf_31 hl (k := 1) rfl v_2124_e.symm (by decide) rfl (fun ls hl => ?_)
          refine lv_goto (tgt := 5) hx hb dX12_manyOf_34 (by decide) ?_
          exact ih_2113 v_2123 v_2124 ls (by (first | (clear h_i_undoMany h_i_length h_i_size h_i_p h_i_at h_i_token h_i_number h_i_letterMany h_i_faultAt h_i_isKnown h_i_toldMany; omega) | omega)) (tr_w h_v_2124 (by decide) (by decide)) ((gc_next (d' := 0) (t := v_2123.toInt) (j := v_2124.toInt.toNat) hr2113_0 g_v_2119 (by (first | (clear h_i_undoMany h_i_length h_i_size h_i_p h_i_at h_i_token h_i_number h_i_letterMany h_i_faultAt h_i_isKnown h_i_toldMany; omega) | omega))).1 (by (first | (clear h_i_undoMany h_i_length h_i_size h_i_p h_i_at h_i_token h_i_number h_i_letterMany h_i_faultAt h_i_isKnown h_i_toldMany; omega) | omega)) (by (first | (clear h_i_undoMany h_i_length h_i_size h_i_p h_i_at h_i_token h_i_number h_i_letterMany h_i_faultAt h_i_isKnown h_i_toldMany; omega) | omega))) (by have z_0 := tk_0; have q9 := hG.1; have q8 := congrArg Int32.toInt g_v_2114; (first | (clear h_i_undoMany h_i_length h_i_size h_i_p h_i_at h_i_token h_i_number h_i_letterMany h_i_faultAt h_i_isKnown h_i_toldMany; omega) | omega)) (by (first | (clear h_i_undoMany h_i_length h_i_size h_i_p h_i_at h_i_token h_i_number h_i_letterMany h_i_faultAt h_i_isKnown h_i_toldMany; omega) | omega)) (lv_sub hl [0, 1, 2, 3, 4] rfl)
  exact lp_2113 13 0 0 ls (⟨by decide, by decide⟩ : 0 ≤ (0 : Int32).toInt ∧ (0 : Int32).toInt ≤ 12) (⟨by decide, by decide⟩ : 0 ≤ (0 : Int32).toInt ∧ (0 : Int32).toInt ≤ 12) rfl (by have z_0 := tk_0; have q9 := hG.1; (first | (clear h_i_undoMany h_i_length h_i_size h_i_p h_i_at h_i_token h_i_number h_i_letterMany h_i_faultAt h_i_isKnown h_i_toldMany; omega) | omega)) (by decide) (lv_sub hl [0, 1, 2, 3, 4] rfl)
set_option maxHeartbeats 4000000 in
set_option maxRecDepth 100000 in
theorem c_X12_weights (l : Launch) (D : va_G) (g : Nat → ClassId) (rw : Nat) (p1 : Int32) (rf : Nat → Int32) (h_p1 : 0 ≤ (p1 : Int32).toInt ∧ (p1 : Int32).toInt ≤ 11) (hG : GR rf) : Met l yX12_weights (.code yX12_weights cX12_weights 4 (some .int) :: wsL_law) ({ frames := 0, cells := 0, slots := 0, locals := 0 }) (va_Pc [.ref rw, .int p1] (fun U => va_P D vwCl [(wI g rw 0 193 rf)] U.heap ∧ va_K D vwCl (TY g) U)) (vp_Si (fun r => (0 ≤ (r : Int32).toInt ∧ (r : Int32).toInt ≤ 9) ∧ ((r : Int32).toInt = gw rf (p1 : Int32).toInt.toNat (rf (25 + (p1 : Int32).toInt.toNat)).toInt.toNat))) 0 0 (fun _ => False) := by
  refine Met.ofW (cc := cX12_weights) (maxL := 4) (ret := (some .int)) (by decide) rfl ?_
  intro p e s m args below meth c s₁ B hml hv
  obtain ⟨ha, hP, hK⟩ := hv
  have hx := B.exec
  have hb := B.bytes
  have hr := B.returns
  have hts0 := atoms_spec (ws := (.code yX12_weights cX12_weights 4 (some .int) :: wsL_law)) B.pre
  have hts : ∀ w ∈ wsL_law, w.before args s = true := fun w h => hts0 w (List.mem_cons_of_mem _ h)
  have hown : s.vm.findClass RX12 = some m.cls := findClass_of_methodNamed B.named
  have hlocks := B.notSynchronized
  have hP : va_P D vwCl [(wI g rw 0 193 rf)] s.heap := hP
  refine W.eq (g2 := entryFrame m ([.ref rw, .int p1] : List Value).toArray 4) (by rw [ha]) ?_
  have hl := lv_entry ([.ref rw, .int p1]) (n := 4) (Nat.le_of_ble_eq_true rfl)
  rw [lg_entry_eq]
  generalize (lg_sl ([.ref rw, .int p1]) ++ List.replicate (4 - (lg_sl ([.ref rw, .int p1])).length) Slot.unset).toArray = ls at hl ⊢
  have hl : lv_has ls 4 [(0, .ref rw), (1, .int p1)] := hl
  refine lv_iconst (v := 0) hx hb dX12_weights_0 (by decide) ?_
  refine lv_istore_n (lv' := [(2, .int 0), (0, .ref rw), (1, .int p1)]) hx hb dX12_weights_1 rfl hl (by decide) rfl (fun ls hl => ?_)
  refine lv_iconst (v := 0) hx hb dX12_weights_2 (by decide) ?_
  refine lv_istore_n (lv' := [(3, .int 0), (2, .int 0), (0, .ref rw), (1, .int p1)]) hx hb dX12_weights_3 rfl hl (by decide) rfl (fun ls hl => ?_)
  have lp_2140 : ∀ (n_2140 : Nat) (x_2138 : Int32) (x_2139 : Int32) (ls : Array Slot), (0 ≤ (x_2138 : Int32).toInt ∧ (x_2138 : Int32).toInt ≤ 9) → (0 ≤ (x_2139 : Int32).toInt ∧ (x_2139 : Int32).toInt ≤ 3) → (x_2138.toInt = gw rf (p1 : Int32).toInt.toNat x_2139.toInt.toNat) → (x_2138.toInt ≤ 3 * x_2139.toInt ∧ x_2139.toInt ≤ (rf (25 + (p1 : Int32).toInt.toNat)).toInt) → (3 - x_2139.toInt < (n_2140 : Int)) → lv_has ls 4 [(3, .int x_2139), (2, .int x_2138), (0, .ref rw), (1, .int p1)] → W p l e (headSpec (.code yX12_weights cX12_weights 4 (some .int) :: wsL_law) ({ frames := 0, cells := 0, slots := 0, locals := 0 })).room s m args below meth c s.heap [] 0 0 (MQ below (vp_Si (fun r => (0 ≤ (r : Int32).toInt ∧ (r : Int32).toInt ≤ 9) ∧ ((r : Int32).toInt = gw rf (p1 : Int32).toInt.toNat (rf (25 + (p1 : Int32).toInt.toNat)).toInt.toNat))) args s 0 0 (fun _ => False)) (F0 m 4 ls []) := by
    intro n_2140
    induction n_2140 with
    | zero =>
      intro x_2138 x_2139 ls h_x_2138 h_x_2139 hr2140_0 hr2140_1 hm_2140 hl
      exfalso; omega
    | succ n_2140 ih_2140 =>
      intro x_2138 x_2139 ls h_x_2138 h_x_2139 hr2140_0 hr2140_1 hm_2140 hl
      refine lv_iload_n hx hb dX12_weights_4 rfl (lv_at hl 0 rfl) ?_
      refine lv_aload_n hx hb dX12_weights_5 rfl (lv_at hl 2 rfl) ?_
      refine lv_bipush (v := 25) hx hb dX12_weights_6 (by decide) ?_
      refine lv_iload_n hx hb dX12_weights_8 rfl (lv_at hl 3 rfl) ?_
      refine lv_iadd hx hb dX12_weights_9 ?_
      refine lv_topi (fun v_2141 v_2141_e => ?_)
      have h_v_2141 : 25 ≤ (v_2141 : Int32).toInt ∧ (v_2141 : Int32).toInt ≤ 36 := by rw [v_2141_e]; exact tr_add (⟨by decide, by decide⟩ : 25 ≤ (25 : Int32).toInt ∧ (25 : Int32).toInt ≤ 25) h_p1 (by decide) (by decide) (by decide) (by decide)
      have q_v_2141 : v_2141.toInt = 25 + p1.toInt := by rw [v_2141_e]; exact (tr_addX (⟨by decide, by decide⟩ : 25 ≤ (25 : Int32).toInt ∧ (25 : Int32).toInt ≤ 25) h_p1 (by decide) (by decide)).trans (by rw [tk_25])
      refine va_iald hx hb hK hP 0 0 rfl rfl (tr_in h_v_2141 (by decide) (by decide)) dX12_weights_10 ?_
      refine lv_topi (fun v_2142 v_2142_e => ?_)
      have h_v_2142 : 0 ≤ (v_2142 : Int32).toInt ∧ (v_2142 : Int32).toInt ≤ 3 := by rw [v_2142_e]; exact gr_ways hG (tr_w h_v_2141 (by decide) (by decide))
      have g_v_2142 : v_2142 = rf (25 + p1.toInt.toNat) := v_2142_e.trans (congrArg rf (by show Int.toNat _ = _; omega))
      have gi_v_2142 := congrArg Int32.toInt g_v_2142
      refine lv_icmp_ge (tgt := 33) hx hb dX12_weights_11 (by decide) (fun c_2143 => ?_) (fun c_2143 => ?_)
      · skip
        have c_2143_i := Int32.le_iff_toInt_le.mp c_2143
        refine lv_iload_n hx hb dX12_weights_33 rfl (lv_at hl 1 rfl) ?_
        exact W.iret (v := x_2138) hx hb hr (fun t ht hW => ⟨x_2138, rfl, ⟨(tr_w h_x_2138 (by decide) (by decide)), (hr2140_0.trans (congrArg (gw rf (p1 : Int32).toInt.toNat) (by have q8 := congrArg Int32.toInt g_v_2142; omega)))⟩, ht⟩) (fun _ h => nomatch h) dX12_weights_34
      · skip
        have c_2143_i := Int32.lt_iff_toInt_lt.mp (Int32.not_le.mp c_2143)
        have h_2144 : 0 ≤ (x_2139 : Int32).toInt ∧ (x_2139 : Int32).toInt ≤ 2 := nr_lt_l h_x_2139 h_v_2142 c_2143_i (by decide) (by decide)
        have h_2145 : 1 ≤ (v_2142 : Int32).toInt ∧ (v_2142 : Int32).toInt ≤ 3 := nr_lt_r h_x_2139 h_v_2142 c_2143_i (by decide) (by decide)
        refine lv_iload_n hx hb dX12_weights_14 rfl (lv_at hl 1 rfl) ?_
        refine lv_aload_n hx hb dX12_weights_15 rfl (lv_at hl 2 rfl) ?_
        refine lv_bipush (v := 73) hx hb dX12_weights_16 (by decide) ?_
        refine lv_iconst (v := 3) hx hb dX12_weights_18 (by decide) ?_
        refine lv_iload_n hx hb dX12_weights_19 rfl (lv_at hl 3 rfl) ?_
        refine lv_imul hx hb dX12_weights_20 ?_
        refine lv_topi (fun v_2146 v_2146_e => ?_)
        have h_v_2146 : 0 ≤ (v_2146 : Int32).toInt ∧ (v_2146 : Int32).toInt ≤ 33 := by rw [v_2146_e]; exact tr_mul (⟨by decide, by decide⟩ : 3 ≤ (3 : Int32).toInt ∧ (3 : Int32).toInt ≤ 3) h_p1 (by decide) (by decide) (by decide) (by decide)
        have q_v_2146 : v_2146.toInt = 3 * p1.toInt := by rw [v_2146_e]; exact (tr_mulX (⟨by decide, by decide⟩ : 3 ≤ (3 : Int32).toInt ∧ (3 : Int32).toInt ≤ 3) h_p1 (by decide) (by decide)).trans (by rw [tk_3])
        refine lv_iadd hx hb dX12_weights_21 ?_
        refine lv_topi (fun v_2147 v_2147_e => ?_)
        have h_v_2147 : 73 ≤ (v_2147 : Int32).toInt ∧ (v_2147 : Int32).toInt ≤ 106 := by rw [v_2147_e]; exact tr_add (⟨by decide, by decide⟩ : 73 ≤ (73 : Int32).toInt ∧ (73 : Int32).toInt ≤ 73) h_v_2146 (by decide) (by decide) (by decide) (by decide)
        have q_v_2147 : v_2147.toInt = 73 + v_2146.toInt := by rw [v_2147_e]; exact (tr_addX (⟨by decide, by decide⟩ : 73 ≤ (73 : Int32).toInt ∧ (73 : Int32).toInt ≤ 73) h_v_2146 (by decide) (by decide)).trans (by rw [tk_73])
        refine lv_iload_n hx hb dX12_weights_22 rfl (lv_at hl 0 rfl) ?_
        refine lv_iadd hx hb dX12_weights_23 ?_
        refine lv_topi (fun v_2148 v_2148_e => ?_)
        have h_v_2148 : 73 ≤ (v_2148 : Int32).toInt ∧ (v_2148 : Int32).toInt ≤ 108 := by rw [v_2148_e]; exact tr_add h_v_2147 h_2144 (by decide) (by decide) (by decide) (by decide)
        have q_v_2148 : v_2148.toInt = v_2147.toInt + x_2139.toInt := by rw [v_2148_e]; exact tr_addX h_v_2147 h_2144 (by decide) (by decide)
        refine va_iald hx hb hK hP 0 0 rfl rfl (tr_in h_v_2148 (by decide) (by decide)) dX12_weights_24 ?_
        refine lv_topi (fun v_2149 v_2149_e => ?_)
        have h_v_2149 : 0 ≤ (v_2149 : Int32).toInt ∧ (v_2149 : Int32).toInt ≤ 3 := by rw [v_2149_e]; exact gr_heavy hG (tr_w h_v_2148 (by decide) (by decide))
        have g_v_2149 : v_2149 = rf (73 + 3 * p1.toInt.toNat + x_2139.toInt.toNat) := v_2149_e.trans (congrArg rf (by show Int.toNat _ = _; omega))
        have gi_v_2149 := congrArg Int32.toInt g_v_2149
        refine lv_iadd hx hb dX12_weights_25 ?_
        refine lv_topi (fun v_2150 v_2150_e => ?_)
        have h_v_2150 : 0 ≤ (v_2150 : Int32).toInt ∧ (v_2150 : Int32).toInt ≤ 12 := by rw [v_2150_e]; exact tr_add h_x_2138 h_v_2149 (by decide) (by decide) (by decide) (by decide)
        have q_v_2150 : v_2150.toInt = x_2138.toInt + v_2149.toInt := by rw [v_2150_e]; exact tr_addX h_x_2138 h_v_2149 (by decide) (by decide)
        refine lv_istore_n (lv' := [(2, .int v_2150), (3, .int x_2139), (0, .ref rw), (1, .int p1)]) hx hb dX12_weights_26 rfl hl (by decide) rfl (fun ls hl => ?_)
        obtain ⟨v_2151, v_2151_e⟩ : ∃ y : Int32, y = x_2139 + Int32.ofInt 1 := ⟨_, rfl⟩
        have h_v_2151 : 1 ≤ (v_2151 : Int32).toInt ∧ (v_2151 : Int32).toInt ≤ 3 := by rw [v_2151_e]; exact tr_add h_2144 (⟨by decide, by decide⟩ : 1 ≤ (Int32.ofInt 1 : Int32).toInt ∧ (Int32.ofInt 1 : Int32).toInt ≤ 1) (by decide) (by decide) (by decide) (by decide)
        have q_v_2151 : v_2151.toInt = x_2139.toInt + 1 := by rw [v_2151_e]; exact tr_addE h_2144 (⟨by decide, by decide⟩ : 1 ≤ (Int32.ofInt 1 : Int32).toInt ∧ (Int32.ofInt 1 : Int32).toInt ≤ 1) (by decide) (by decide)
        refine lv_iinc (v := v_2151) (lv' := [(3, .int v_2151), (2, .int v_2150), (0, .ref rw), (1, .int p1)]) hx hb dX12_weights_27 hl (k := 1) rfl v_2151_e.symm (by decide) rfl (fun ls hl => ?_)
        refine lv_goto (tgt := 4) hx hb dX12_weights_30 (by decide) ?_
        exact ih_2140 v_2150 v_2151 ls (by omega) (tr_w h_v_2151 (by decide) (by decide)) (gw_next (t := v_2150.toInt) (j := v_2151.toInt.toNat) hr2140_0 g_v_2149 (by omega) (by omega)) (by have z_0 := tk_0; have q9 := (hG.2.1 (p1 : Int32).toInt.toNat (by omega)).2.2.1; have q8 := congrArg Int32.toInt g_v_2142; omega) (by omega) (lv_sub hl [0, 1, 2, 3] rfl)
  exact lp_2140 4 0 0 ls (⟨by decide, by decide⟩ : 0 ≤ (0 : Int32).toInt ∧ (0 : Int32).toInt ≤ 9) (⟨by decide, by decide⟩ : 0 ≤ (0 : Int32).toInt ∧ (0 : Int32).toInt ≤ 3) rfl (by have z_0 := tk_0; have q9 := (hG.2.1 (p1 : Int32).toInt.toNat (by omega)).2.2.1; omega) (by decide) (lv_sub hl [0, 1, 2, 3] rfl)
set_option maxHeartbeats 4000000 in
set_option maxRecDepth 100000 in
theorem c_X12_copies (l : Launch) (D : va_G) (g : Nat → ClassId) (sz : Nat) (fa : Nat) (p1 : Int32) (ta : Nat) (p3 : Int32) (ff : Nat → Int32) (tf : Nat → Int32) (h_p1 : 0 ≤ (p1 : Int32).toInt ∧ (p1 : Int32).toInt ≤ 0) (h_p3 : 0 ≤ (p3 : Int32).toInt ∧ (p3 : Int32).toInt ≤ 0) : Met l yX12_copies (.code yX12_copies cX12_copies 5 none :: wsL_law) ({ frames := 0, cells := 0, slots := 0, locals := 0 }) (va_Pc [.ref fa, .int p1, .ref ta, .int p3] (fun U => U.heap.size = sz ∧ va_P D vwCl [(wI g fa 0 193 ff), (wI g ta 0 193 tf)] U.heap ∧ va_K D vwCl (TY g) U ∧ va_D (fun _ => True) [(wI g fa 0 193 ff), (wI g ta 0 193 tf)])) (va_Qv (fun (_ : Unit) => True) (fun _ t => ∃ otf : Nat → Int32, (otf = va_cpy ff tf (p1 : Int32).toInt.toNat (p3 : Int32).toInt.toNat 193) ∧ va_P D vwCl [(wI g fa 0 193 ff), (wI g ta 0 193 otf)] t.heap ∧ va_D (va_A [(wI g fa 0 193 ff), (wI g ta 0 193 tf)] sz) [(wI g fa 0 193 ff), (wI g ta 0 193 otf)]) (va_A [(wI g fa 0 193 ff), (wI g ta 0 193 tf)] sz)) 0 0 (va_A [(wI g fa 0 193 ff), (wI g ta 0 193 tf)] sz) := by
  refine Met.ofW (cc := cX12_copies) (maxL := 5) (ret := none) (by decide) rfl ?_
  intro p e s m args below meth c s₁ B hml hv
  obtain ⟨ha, hsz, hP, hK, hD0⟩ := hv
  have hx := B.exec
  have hb := B.bytes
  have hr := B.returns
  have hts0 := atoms_spec (ws := (.code yX12_copies cX12_copies 5 none :: wsL_law)) B.pre
  have hts : ∀ w ∈ wsL_law, w.before args s = true := fun w h => hts0 w (List.mem_cons_of_mem _ h)
  have hown : s.vm.findClass RX12 = some m.cls := findClass_of_methodNamed B.named
  have hlocks := B.notSynchronized
  subst hsz
  have hD := hD0.self (sz := s.heap.size)
  generalize hAe : va_A [(wI g fa 0 193 ff), (wI g ta 0 193 tf)] s.heap.size = A at hD ⊢
  have hA : ∀ q : Nat, s.heap.size ≤ q → A q := fun q h => by rw [← hAe]; exact Or.inr h
  have hS : va_S A s.heap s.heap [] := va_S.rf
  have hP : va_P D vwCl [(wI g fa 0 193 ff), (wI g ta 0 193 tf)] s.heap := hP
  refine W.eq (g2 := entryFrame m ([.ref fa, .int p1, .ref ta, .int p3] : List Value).toArray 5) (by rw [ha]) ?_
  have hl := lv_entry ([.ref fa, .int p1, .ref ta, .int p3]) (n := 5) (Nat.le_of_ble_eq_true rfl)
  rw [lg_entry_eq]
  generalize (lg_sl ([.ref fa, .int p1, .ref ta, .int p3]) ++ List.replicate (5 - (lg_sl ([.ref fa, .int p1, .ref ta, .int p3])).length) Slot.unset).toArray = ls at hl ⊢
  have hl : lv_has ls 5 [(0, .ref fa), (1, .int p1), (2, .ref ta), (3, .int p3)] := hl
  refine lv_iconst (v := 0) hx hb dX12_copies_0 (by decide) ?_
  refine lv_istore (lv' := [(4, .int 0), (0, .ref fa), (1, .int p1), (2, .ref ta), (3, .int p3)]) hx hb dX12_copies_1 hl (by decide) rfl (fun ls hl => ?_)
  have lp_2173 : ∀ (n_2173 : Nat) (x_2171 : Int32) (f_2172 : Nat → Int32) (H : Heap) (locs : List Loc) (ls : Array Slot), (0 ≤ (x_2171 : Int32).toInt ∧ (x_2171 : Int32).toInt ≤ 193) → (f_2172 = va_cpy ff tf p1.toInt.toNat p3.toInt.toNat x_2171.toInt.toNat) → (193 - x_2171.toInt < (n_2173 : Int)) → va_P D vwCl [(wI g fa 0 193 ff), (wI g ta 0 193 f_2172)] H → va_D A [(wI g fa 0 193 ff), (wI g ta 0 193 f_2172)] → va_S A s.heap H locs → lv_has ls 5 [(4, .int x_2171), (0, .ref fa), (1, .int p1), (2, .ref ta), (3, .int p3)] → W p l e (headSpec (.code yX12_copies cX12_copies 5 none :: wsL_law) ({ frames := 0, cells := 0, slots := 0, locals := 0 })).room s m args below meth c H locs 0 0 (MQ below (va_Qv (fun (_ : Unit) => True) (fun _ t => ∃ otf : Nat → Int32, (otf = va_cpy ff tf (p1 : Int32).toInt.toNat (p3 : Int32).toInt.toNat 193) ∧ va_P D vwCl [(wI g fa 0 193 ff), (wI g ta 0 193 otf)] t.heap ∧ va_D A [(wI g fa 0 193 ff), (wI g ta 0 193 otf)]) A) args s 0 0 A) (F0 m 3 ls []) := by
    intro n_2173
    induction n_2173 with
    | zero =>
      intro x_2171 f_2172 H locs ls h_x_2171 hr2173_0 hm_2173 hP hD hS hl
      exfalso; omega
    | succ n_2173 ih_2173 =>
      intro x_2171 f_2172 H locs ls h_x_2171 hr2173_0 hm_2173 hP hD hS hl
      refine lv_iload hx hb dX12_copies_3 (lv_at hl 0 rfl) ?_
      refine lv_sipush (v := 193) hx hb dX12_copies_5 (by decide) ?_
      refine lv_icmp_ge (tgt := 29) hx hb dX12_copies_8 (by decide) (fun c_2174 => ?_) (fun c_2174 => ?_)
      · skip
        have kk_193 := tk_193
        have c_2174_i := Int32.le_iff_toInt_le.mp c_2174
        have h_2175 : 193 ≤ (x_2171 : Int32).toInt ∧ (x_2171 : Int32).toInt ≤ 193 := nr_le_r (⟨by decide, by decide⟩ : 193 ≤ (193 : Int32).toInt ∧ (193 : Int32).toInt ≤ 193) h_x_2171 c_2174_i (by decide) (by decide)
        have hP9 := hP.sub (ws' := [(wI g fa 0 193 ff), (wI g ta 0 193 f_2172)]) [0, 1] rfl
        have hD9 := hD.sub (ws' := [(wI g fa 0 193 ff), (wI g ta 0 193 f_2172)]) [0, 1] (by decide) rfl
        exact W.vret hx hb hr (fun t ht hW => ⟨⟨(), rfl, trivial, f_2172, (hr2173_0.trans (congrArg (va_cpy ff tf p1.toInt.toNat p3.toInt.toNat) (by have z_193 := tk_193; omega))), by rw [ht]; exact hP9, hD9⟩, hS.F ht⟩) hS.2.2 dX12_copies_29
      · skip
        have kk_193 := tk_193
        have c_2174_i := Int32.lt_iff_toInt_lt.mp (Int32.not_le.mp c_2174)
        have h_2176 : 0 ≤ (x_2171 : Int32).toInt ∧ (x_2171 : Int32).toInt ≤ 192 := nr_lt_l h_x_2171 (⟨by decide, by decide⟩ : 193 ≤ (193 : Int32).toInt ∧ (193 : Int32).toInt ≤ 193) c_2174_i (by decide) (by decide)
        refine lv_aload_n hx hb dX12_copies_11 rfl (lv_at hl 3 rfl) ?_
        refine lv_iload_n hx hb dX12_copies_12 rfl (lv_at hl 4 rfl) ?_
        refine lv_iload hx hb dX12_copies_13 (lv_at hl 0 rfl) ?_
        refine lv_iadd hx hb dX12_copies_15 ?_
        refine lv_topi (fun v_2177 v_2177_e => ?_)
        have h_v_2177 : 0 ≤ (v_2177 : Int32).toInt ∧ (v_2177 : Int32).toInt ≤ 192 := by rw [v_2177_e]; exact tr_add h_p3 h_2176 (by decide) (by decide) (by decide) (by decide)
        have q_v_2177 : v_2177.toInt = p3.toInt + x_2171.toInt := by rw [v_2177_e]; exact tr_addX h_p3 h_2176 (by decide) (by decide)
        refine lv_aload_n hx hb dX12_copies_16 rfl (lv_at hl 1 rfl) ?_
        refine lv_iload_n hx hb dX12_copies_17 rfl (lv_at hl 2 rfl) ?_
        refine lv_iload hx hb dX12_copies_18 (lv_at hl 0 rfl) ?_
        refine lv_iadd hx hb dX12_copies_20 ?_
        refine lv_topi (fun v_2178 v_2178_e => ?_)
        have h_v_2178 : 0 ≤ (v_2178 : Int32).toInt ∧ (v_2178 : Int32).toInt ≤ 192 := by rw [v_2178_e]; exact tr_add h_p1 h_2176 (by decide) (by decide) (by decide) (by decide)
        have q_v_2178 : v_2178.toInt = p1.toInt + x_2171.toInt := by rw [v_2178_e]; exact tr_addX h_p1 h_2176 (by decide) (by decide)
        refine va_iald hx hb hK hP 0 0 rfl rfl (tr_in h_v_2178 (by decide) (by decide)) dX12_copies_21 ?_
        refine lv_topi (fun v_2179 v_2179_e => ?_)
        have g_v_2179 : v_2179 = ff (p1.toInt.toNat + x_2171.toInt.toNat) := v_2179_e.trans (congrArg ff (by show Int.toNat _ = _; omega))
        have gi_v_2179 := congrArg Int32.toInt g_v_2179
        refine va_iast hx hb hK hP hD hS 1 0 rfl rfl (tr_in h_v_2177 (by decide) (by decide)) dX12_copies_22 (fun H locs hP hD hS => ?_)
        obtain ⟨f_2180, f_2180_e, hP, hD⟩ : ∃ FX : Nat → Int32, FX = (upd f_2172 (v_2177 : Int32).toNatClampNeg v_2179) ∧ va_P D vwCl [(wI g fa 0 193 ff), (wI g ta 0 193 FX)] H ∧ va_D A [(wI g fa 0 193 ff), (wI g ta 0 193 FX)] := ⟨_, rfl, hP, hD⟩
        have hP : va_P D vwCl [(wI g fa 0 193 ff), (wI g ta 0 193 f_2180)] H := hP
        have hD : va_D A [(wI g fa 0 193 ff), (wI g ta 0 193 f_2180)] := hD
        obtain ⟨v_2181, v_2181_e⟩ : ∃ y : Int32, y = x_2171 + Int32.ofInt 1 := ⟨_, rfl⟩
        have h_v_2181 : 1 ≤ (v_2181 : Int32).toInt ∧ (v_2181 : Int32).toInt ≤ 193 := by rw [v_2181_e]; exact tr_add h_2176 (⟨by decide, by decide⟩ : 1 ≤ (Int32.ofInt 1 : Int32).toInt ∧ (Int32.ofInt 1 : Int32).toInt ≤ 1) (by decide) (by decide) (by decide) (by decide)
        have q_v_2181 : v_2181.toInt = x_2171.toInt + 1 := by rw [v_2181_e]; exact tr_addE h_2176 (⟨by decide, by decide⟩ : 1 ≤ (Int32.ofInt 1 : Int32).toInt ∧ (Int32.ofInt 1 : Int32).toInt ≤ 1) (by decide) (by decide)
        refine lv_iinc (v := v_2181) (lv' := [(4, .int v_2181), (0, .ref fa), (1, .int p1), (2, .ref ta), (3, .int p3)]) hx hb dX12_copies_23 hl (k := 0) rfl v_2181_e.symm (by decide) rfl (fun ls hl => ?_)
        refine lv_goto (tgt := 3) hx hb dX12_copies_26 (by decide) ?_
        exact ih_2173 v_2181 f_2180 H _ ls (tr_w h_v_2181 (by decide) (by decide)) (by rw [f_2180_e, show v_2181.toInt.toNat = _ + 1 from (by omega : _ = x_2171.toInt.toNat + 1)]; exact va_cpy_step hr2173_0 (by show Int.toNat _ = _; omega) g_v_2179) (by omega) (hP.sub [0, 1] rfl) (hD.sub [0, 1] (by decide) rfl) hS (lv_sub hl [0, 1, 2, 3, 4] rfl)
  exact lp_2173 194 0 tf s.heap _ ls (⟨by decide, by decide⟩ : 0 ≤ (0 : Int32).toInt ∧ (0 : Int32).toInt ≤ 193) (va_cpy_zero _ _ _ _) (by decide) (hP.sub [0, 1] rfl) (hD.sub [0, 1] (by decide) rfl) hS (lv_sub hl [0, 1, 2, 3, 4] rfl)
set_option maxHeartbeats 4000000 in
set_option maxRecDepth 100000 in
theorem c_X12_copiesK (l : Launch) (D : va_G) (g : Nat → ClassId) (sz : Nat) (fa : Nat) (p1 : Int32) (ta : Nat) (p3 : Int32) (ff : Nat → Int32) (tf : Nat → Int32) (h_p1 : 0 ≤ (p1 : Int32).toInt ∧ (p1 : Int32).toInt ≤ 0) (h_p3 : 0 ≤ (p3 : Int32).toInt ∧ (p3 : Int32).toInt ≤ 193) : Met l yX12_copies (.code yX12_copies cX12_copies 5 none :: wsL_law) ({ frames := 0, cells := 0, slots := 0, locals := 0 }) (va_Pc [.ref fa, .int p1, .ref ta, .int p3] (fun U => U.heap.size = sz ∧ va_P D vwCl [(wI g fa 0 193 ff), (wI g ta 0 386 tf)] U.heap ∧ va_K D vwCl (TY g) U ∧ va_D (fun _ => True) [(wI g fa 0 193 ff), (wI g ta 0 386 tf)])) (va_Qv (fun (_ : Unit) => True) (fun _ t => ∃ otf : Nat → Int32, (otf = va_cpy ff tf (p1 : Int32).toInt.toNat (p3 : Int32).toInt.toNat 193) ∧ va_P D vwCl [(wI g fa 0 193 ff), (wI g ta 0 386 otf)] t.heap ∧ va_D (va_A [(wI g fa 0 193 ff), (wI g ta 0 386 tf)] sz) [(wI g fa 0 193 ff), (wI g ta 0 386 otf)]) (va_A [(wI g fa 0 193 ff), (wI g ta 0 386 tf)] sz)) 0 0 (va_A [(wI g fa 0 193 ff), (wI g ta 0 386 tf)] sz) := by
  refine Met.ofW (cc := cX12_copies) (maxL := 5) (ret := none) (by decide) rfl ?_
  intro p e s m args below meth c s₁ B hml hv
  obtain ⟨ha, hsz, hP, hK, hD0⟩ := hv
  have hx := B.exec
  have hb := B.bytes
  have hr := B.returns
  have hts0 := atoms_spec (ws := (.code yX12_copies cX12_copies 5 none :: wsL_law)) B.pre
  have hts : ∀ w ∈ wsL_law, w.before args s = true := fun w h => hts0 w (List.mem_cons_of_mem _ h)
  have hown : s.vm.findClass RX12 = some m.cls := findClass_of_methodNamed B.named
  have hlocks := B.notSynchronized
  subst hsz
  have hD := hD0.self (sz := s.heap.size)
  generalize hAe : va_A [(wI g fa 0 193 ff), (wI g ta 0 386 tf)] s.heap.size = A at hD ⊢
  have hA : ∀ q : Nat, s.heap.size ≤ q → A q := fun q h => by rw [← hAe]; exact Or.inr h
  have hS : va_S A s.heap s.heap [] := va_S.rf
  have hP : va_P D vwCl [(wI g fa 0 193 ff), (wI g ta 0 386 tf)] s.heap := hP
  refine W.eq (g2 := entryFrame m ([.ref fa, .int p1, .ref ta, .int p3] : List Value).toArray 5) (by rw [ha]) ?_
  have hl := lv_entry ([.ref fa, .int p1, .ref ta, .int p3]) (n := 5) (Nat.le_of_ble_eq_true rfl)
  rw [lg_entry_eq]
  generalize (lg_sl ([.ref fa, .int p1, .ref ta, .int p3]) ++ List.replicate (5 - (lg_sl ([.ref fa, .int p1, .ref ta, .int p3])).length) Slot.unset).toArray = ls at hl ⊢
  have hl : lv_has ls 5 [(0, .ref fa), (1, .int p1), (2, .ref ta), (3, .int p3)] := hl
  refine lv_iconst (v := 0) hx hb dX12_copies_0 (by decide) ?_
  refine lv_istore (lv' := [(4, .int 0), (0, .ref fa), (1, .int p1), (2, .ref ta), (3, .int p3)]) hx hb dX12_copies_1 hl (by decide) rfl (fun ls hl => ?_)
  have lp_2203 : ∀ (n_2203 : Nat) (x_2201 : Int32) (f_2202 : Nat → Int32) (H : Heap) (locs : List Loc) (ls : Array Slot), (0 ≤ (x_2201 : Int32).toInt ∧ (x_2201 : Int32).toInt ≤ 193) → (f_2202 = va_cpy ff tf p1.toInt.toNat p3.toInt.toNat x_2201.toInt.toNat) → (193 - x_2201.toInt < (n_2203 : Int)) → va_P D vwCl [(wI g fa 0 193 ff), (wI g ta 0 386 f_2202)] H → va_D A [(wI g fa 0 193 ff), (wI g ta 0 386 f_2202)] → va_S A s.heap H locs → lv_has ls 5 [(4, .int x_2201), (0, .ref fa), (1, .int p1), (2, .ref ta), (3, .int p3)] → W p l e (headSpec (.code yX12_copies cX12_copies 5 none :: wsL_law) ({ frames := 0, cells := 0, slots := 0, locals := 0 })).room s m args below meth c H locs 0 0 (MQ below (va_Qv (fun (_ : Unit) => True) (fun _ t => ∃ otf : Nat → Int32, (otf = va_cpy ff tf (p1 : Int32).toInt.toNat (p3 : Int32).toInt.toNat 193) ∧ va_P D vwCl [(wI g fa 0 193 ff), (wI g ta 0 386 otf)] t.heap ∧ va_D A [(wI g fa 0 193 ff), (wI g ta 0 386 otf)]) A) args s 0 0 A) (F0 m 3 ls []) := by
    intro n_2203
    induction n_2203 with
    | zero =>
      intro x_2201 f_2202 H locs ls h_x_2201 hr2203_0 hm_2203 hP hD hS hl
      exfalso; omega
    | succ n_2203 ih_2203 =>
      intro x_2201 f_2202 H locs ls h_x_2201 hr2203_0 hm_2203 hP hD hS hl
      refine lv_iload hx hb dX12_copies_3 (lv_at hl 0 rfl) ?_
      refine lv_sipush (v := 193) hx hb dX12_copies_5 (by decide) ?_
      refine lv_icmp_ge (tgt := 29) hx hb dX12_copies_8 (by decide) (fun c_2204 => ?_) (fun c_2204 => ?_)
      · skip
        have kk_193 := tk_193
        have c_2204_i := Int32.le_iff_toInt_le.mp c_2204
        have h_2205 : 193 ≤ (x_2201 : Int32).toInt ∧ (x_2201 : Int32).toInt ≤ 193 := nr_le_r (⟨by decide, by decide⟩ : 193 ≤ (193 : Int32).toInt ∧ (193 : Int32).toInt ≤ 193) h_x_2201 c_2204_i (by decide) (by decide)
        have hP9 := hP.sub (ws' := [(wI g fa 0 193 ff), (wI g ta 0 386 f_2202)]) [0, 1] rfl
        have hD9 := hD.sub (ws' := [(wI g fa 0 193 ff), (wI g ta 0 386 f_2202)]) [0, 1] (by decide) rfl
        exact W.vret hx hb hr (fun t ht hW => ⟨⟨(), rfl, trivial, f_2202, (hr2203_0.trans (congrArg (va_cpy ff tf p1.toInt.toNat p3.toInt.toNat) (by have z_193 := tk_193; omega))), by rw [ht]; exact hP9, hD9⟩, hS.F ht⟩) hS.2.2 dX12_copies_29
      · skip
        have kk_193 := tk_193
        have c_2204_i := Int32.lt_iff_toInt_lt.mp (Int32.not_le.mp c_2204)
        have h_2206 : 0 ≤ (x_2201 : Int32).toInt ∧ (x_2201 : Int32).toInt ≤ 192 := nr_lt_l h_x_2201 (⟨by decide, by decide⟩ : 193 ≤ (193 : Int32).toInt ∧ (193 : Int32).toInt ≤ 193) c_2204_i (by decide) (by decide)
        refine lv_aload_n hx hb dX12_copies_11 rfl (lv_at hl 3 rfl) ?_
        refine lv_iload_n hx hb dX12_copies_12 rfl (lv_at hl 4 rfl) ?_
        refine lv_iload hx hb dX12_copies_13 (lv_at hl 0 rfl) ?_
        refine lv_iadd hx hb dX12_copies_15 ?_
        refine lv_topi (fun v_2207 v_2207_e => ?_)
        have h_v_2207 : 0 ≤ (v_2207 : Int32).toInt ∧ (v_2207 : Int32).toInt ≤ 385 := by rw [v_2207_e]; exact tr_add h_p3 h_2206 (by decide) (by decide) (by decide) (by decide)
        have q_v_2207 : v_2207.toInt = p3.toInt + x_2201.toInt := by rw [v_2207_e]; exact tr_addX h_p3 h_2206 (by decide) (by decide)
        refine lv_aload_n hx hb dX12_copies_16 rfl (lv_at hl 1 rfl) ?_
        refine lv_iload_n hx hb dX12_copies_17 rfl (lv_at hl 2 rfl) ?_
        refine lv_iload hx hb dX12_copies_18 (lv_at hl 0 rfl) ?_
        refine lv_iadd hx hb dX12_copies_20 ?_
        refine lv_topi (fun v_2208 v_2208_e => ?_)
        have h_v_2208 : 0 ≤ (v_2208 : Int32).toInt ∧ (v_2208 : Int32).toInt ≤ 192 := by rw [v_2208_e]; exact tr_add h_p1 h_2206 (by decide) (by decide) (by decide) (by decide)
        have q_v_2208 : v_2208.toInt = p1.toInt + x_2201.toInt := by rw [v_2208_e]; exact tr_addX h_p1 h_2206 (by decide) (by decide)
        refine va_iald hx hb hK hP 0 0 rfl rfl (tr_in h_v_2208 (by decide) (by decide)) dX12_copies_21 ?_
        refine lv_topi (fun v_2209 v_2209_e => ?_)
        have g_v_2209 : v_2209 = ff (p1.toInt.toNat + x_2201.toInt.toNat) := v_2209_e.trans (congrArg ff (by show Int.toNat _ = _; omega))
        have gi_v_2209 := congrArg Int32.toInt g_v_2209
        refine va_iast hx hb hK hP hD hS 1 0 rfl rfl (tr_in h_v_2207 (by decide) (by decide)) dX12_copies_22 (fun H locs hP hD hS => ?_)
        obtain ⟨f_2210, f_2210_e, hP, hD⟩ : ∃ FX : Nat → Int32, FX = (upd f_2202 (v_2207 : Int32).toNatClampNeg v_2209) ∧ va_P D vwCl [(wI g fa 0 193 ff), (wI g ta 0 386 FX)] H ∧ va_D A [(wI g fa 0 193 ff), (wI g ta 0 386 FX)] := ⟨_, rfl, hP, hD⟩
        have hP : va_P D vwCl [(wI g fa 0 193 ff), (wI g ta 0 386 f_2210)] H := hP
        have hD : va_D A [(wI g fa 0 193 ff), (wI g ta 0 386 f_2210)] := hD
        obtain ⟨v_2211, v_2211_e⟩ : ∃ y : Int32, y = x_2201 + Int32.ofInt 1 := ⟨_, rfl⟩
        have h_v_2211 : 1 ≤ (v_2211 : Int32).toInt ∧ (v_2211 : Int32).toInt ≤ 193 := by rw [v_2211_e]; exact tr_add h_2206 (⟨by decide, by decide⟩ : 1 ≤ (Int32.ofInt 1 : Int32).toInt ∧ (Int32.ofInt 1 : Int32).toInt ≤ 1) (by decide) (by decide) (by decide) (by decide)
        have q_v_2211 : v_2211.toInt = x_2201.toInt + 1 := by rw [v_2211_e]; exact tr_addE h_2206 (⟨by decide, by decide⟩ : 1 ≤ (Int32.ofInt 1 : Int32).toInt ∧ (Int32.ofInt 1 : Int32).toInt ≤ 1) (by decide) (by decide)
        refine lv_iinc (v := v_2211) (lv' := [(4, .int v_2211), (0, .ref fa), (1, .int p1), (2, .ref ta), (3, .int p3)]) hx hb dX12_copies_23 hl (k := 0) rfl v_2211_e.symm (by decide) rfl (fun ls hl => ?_)
        refine lv_goto (tgt := 3) hx hb dX12_copies_26 (by decide) ?_
        exact ih_2203 v_2211 f_2210 H _ ls (tr_w h_v_2211 (by decide) (by decide)) (by rw [f_2210_e, show v_2211.toInt.toNat = _ + 1 from (by omega : _ = x_2201.toInt.toNat + 1)]; exact va_cpy_step hr2203_0 (by show Int.toNat _ = _; omega) g_v_2209) (by omega) (hP.sub [0, 1] rfl) (hD.sub [0, 1] (by decide) rfl) hS (lv_sub hl [0, 1, 2, 3, 4] rfl)
  exact lp_2203 194 0 tf s.heap _ ls (⟨by decide, by decide⟩ : 0 ≤ (0 : Int32).toInt ∧ (0 : Int32).toInt ≤ 193) (va_cpy_zero _ _ _ _) (by decide) (hP.sub [0, 1] rfl) (hD.sub [0, 1] (by decide) rfl) hS (lv_sub hl [0, 1, 2, 3, 4] rfl)
set_option maxHeartbeats 4000000 in
set_option maxRecDepth 100000 in
theorem c_X12_copiesU (l : Launch) (D : va_G) (g : Nat → ClassId) (sz : Nat) (fa : Nat) (p1 : Int32) (ta : Nat) (p3 : Int32) (ff : Nat → Int32) (tf : Nat → Int32) (h_p1 : 0 ≤ (p1 : Int32).toInt ∧ (p1 : Int32).toInt ≤ 0) (h_p3 : 0 ≤ (p3 : Int32).toInt ∧ (p3 : Int32).toInt ≤ 1351) : Met l yX12_copies (.code yX12_copies cX12_copies 5 none :: wsL_law) ({ frames := 0, cells := 0, slots := 0, locals := 0 }) (va_Pc [.ref fa, .int p1, .ref ta, .int p3] (fun U => U.heap.size = sz ∧ va_P D vwCl [(wI g fa 0 193 ff), (wI g ta 0 1544 tf)] U.heap ∧ va_K D vwCl (TY g) U ∧ va_D (fun _ => True) [(wI g fa 0 193 ff), (wI g ta 0 1544 tf)])) (va_Qv (fun (_ : Unit) => True) (fun _ t => ∃ otf : Nat → Int32, (otf = va_cpy ff tf (p1 : Int32).toInt.toNat (p3 : Int32).toInt.toNat 193) ∧ va_P D vwCl [(wI g fa 0 193 ff), (wI g ta 0 1544 otf)] t.heap ∧ va_D (va_A [(wI g fa 0 193 ff), (wI g ta 0 1544 tf)] sz) [(wI g fa 0 193 ff), (wI g ta 0 1544 otf)]) (va_A [(wI g fa 0 193 ff), (wI g ta 0 1544 tf)] sz)) 0 0 (va_A [(wI g fa 0 193 ff), (wI g ta 0 1544 tf)] sz) := by
  refine Met.ofW (cc := cX12_copies) (maxL := 5) (ret := none) (by decide) rfl ?_
  intro p e s m args below meth c s₁ B hml hv
  obtain ⟨ha, hsz, hP, hK, hD0⟩ := hv
  have hx := B.exec
  have hb := B.bytes
  have hr := B.returns
  have hts0 := atoms_spec (ws := (.code yX12_copies cX12_copies 5 none :: wsL_law)) B.pre
  have hts : ∀ w ∈ wsL_law, w.before args s = true := fun w h => hts0 w (List.mem_cons_of_mem _ h)
  have hown : s.vm.findClass RX12 = some m.cls := findClass_of_methodNamed B.named
  have hlocks := B.notSynchronized
  subst hsz
  have hD := hD0.self (sz := s.heap.size)
  generalize hAe : va_A [(wI g fa 0 193 ff), (wI g ta 0 1544 tf)] s.heap.size = A at hD ⊢
  have hA : ∀ q : Nat, s.heap.size ≤ q → A q := fun q h => by rw [← hAe]; exact Or.inr h
  have hS : va_S A s.heap s.heap [] := va_S.rf
  have hP : va_P D vwCl [(wI g fa 0 193 ff), (wI g ta 0 1544 tf)] s.heap := hP
  refine W.eq (g2 := entryFrame m ([.ref fa, .int p1, .ref ta, .int p3] : List Value).toArray 5) (by rw [ha]) ?_
  have hl := lv_entry ([.ref fa, .int p1, .ref ta, .int p3]) (n := 5) (Nat.le_of_ble_eq_true rfl)
  rw [lg_entry_eq]
  generalize (lg_sl ([.ref fa, .int p1, .ref ta, .int p3]) ++ List.replicate (5 - (lg_sl ([.ref fa, .int p1, .ref ta, .int p3])).length) Slot.unset).toArray = ls at hl ⊢
  have hl : lv_has ls 5 [(0, .ref fa), (1, .int p1), (2, .ref ta), (3, .int p3)] := hl
  refine lv_iconst (v := 0) hx hb dX12_copies_0 (by decide) ?_
  refine lv_istore (lv' := [(4, .int 0), (0, .ref fa), (1, .int p1), (2, .ref ta), (3, .int p3)]) hx hb dX12_copies_1 hl (by decide) rfl (fun ls hl => ?_)
  have lp_2233 : ∀ (n_2233 : Nat) (x_2231 : Int32) (f_2232 : Nat → Int32) (H : Heap) (locs : List Loc) (ls : Array Slot), (0 ≤ (x_2231 : Int32).toInt ∧ (x_2231 : Int32).toInt ≤ 193) → (f_2232 = va_cpy ff tf p1.toInt.toNat p3.toInt.toNat x_2231.toInt.toNat) → (193 - x_2231.toInt < (n_2233 : Int)) → va_P D vwCl [(wI g fa 0 193 ff), (wI g ta 0 1544 f_2232)] H → va_D A [(wI g fa 0 193 ff), (wI g ta 0 1544 f_2232)] → va_S A s.heap H locs → lv_has ls 5 [(4, .int x_2231), (0, .ref fa), (1, .int p1), (2, .ref ta), (3, .int p3)] → W p l e (headSpec (.code yX12_copies cX12_copies 5 none :: wsL_law) ({ frames := 0, cells := 0, slots := 0, locals := 0 })).room s m args below meth c H locs 0 0 (MQ below (va_Qv (fun (_ : Unit) => True) (fun _ t => ∃ otf : Nat → Int32, (otf = va_cpy ff tf (p1 : Int32).toInt.toNat (p3 : Int32).toInt.toNat 193) ∧ va_P D vwCl [(wI g fa 0 193 ff), (wI g ta 0 1544 otf)] t.heap ∧ va_D A [(wI g fa 0 193 ff), (wI g ta 0 1544 otf)]) A) args s 0 0 A) (F0 m 3 ls []) := by
    intro n_2233
    induction n_2233 with
    | zero =>
      intro x_2231 f_2232 H locs ls h_x_2231 hr2233_0 hm_2233 hP hD hS hl
      exfalso; omega
    | succ n_2233 ih_2233 =>
      intro x_2231 f_2232 H locs ls h_x_2231 hr2233_0 hm_2233 hP hD hS hl
      refine lv_iload hx hb dX12_copies_3 (lv_at hl 0 rfl) ?_
      refine lv_sipush (v := 193) hx hb dX12_copies_5 (by decide) ?_
      refine lv_icmp_ge (tgt := 29) hx hb dX12_copies_8 (by decide) (fun c_2234 => ?_) (fun c_2234 => ?_)
      · skip
        have kk_193 := tk_193
        have c_2234_i := Int32.le_iff_toInt_le.mp c_2234
        have h_2235 : 193 ≤ (x_2231 : Int32).toInt ∧ (x_2231 : Int32).toInt ≤ 193 := nr_le_r (⟨by decide, by decide⟩ : 193 ≤ (193 : Int32).toInt ∧ (193 : Int32).toInt ≤ 193) h_x_2231 c_2234_i (by decide) (by decide)
        have hP9 := hP.sub (ws' := [(wI g fa 0 193 ff), (wI g ta 0 1544 f_2232)]) [0, 1] rfl
        have hD9 := hD.sub (ws' := [(wI g fa 0 193 ff), (wI g ta 0 1544 f_2232)]) [0, 1] (by decide) rfl
        exact W.vret hx hb hr (fun t ht hW => ⟨⟨(), rfl, trivial, f_2232, (hr2233_0.trans (congrArg (va_cpy ff tf p1.toInt.toNat p3.toInt.toNat) (by have z_193 := tk_193; omega))), by rw [ht]; exact hP9, hD9⟩, hS.F ht⟩) hS.2.2 dX12_copies_29
      · skip
        have kk_193 := tk_193
        have c_2234_i := Int32.lt_iff_toInt_lt.mp (Int32.not_le.mp c_2234)
        have h_2236 : 0 ≤ (x_2231 : Int32).toInt ∧ (x_2231 : Int32).toInt ≤ 192 := nr_lt_l h_x_2231 (⟨by decide, by decide⟩ : 193 ≤ (193 : Int32).toInt ∧ (193 : Int32).toInt ≤ 193) c_2234_i (by decide) (by decide)
        refine lv_aload_n hx hb dX12_copies_11 rfl (lv_at hl 3 rfl) ?_
        refine lv_iload_n hx hb dX12_copies_12 rfl (lv_at hl 4 rfl) ?_
        refine lv_iload hx hb dX12_copies_13 (lv_at hl 0 rfl) ?_
        refine lv_iadd hx hb dX12_copies_15 ?_
        refine lv_topi (fun v_2237 v_2237_e => ?_)
        have h_v_2237 : 0 ≤ (v_2237 : Int32).toInt ∧ (v_2237 : Int32).toInt ≤ 1543 := by rw [v_2237_e]; exact tr_add h_p3 h_2236 (by decide) (by decide) (by decide) (by decide)
        have q_v_2237 : v_2237.toInt = p3.toInt + x_2231.toInt := by rw [v_2237_e]; exact tr_addX h_p3 h_2236 (by decide) (by decide)
        refine lv_aload_n hx hb dX12_copies_16 rfl (lv_at hl 1 rfl) ?_
        refine lv_iload_n hx hb dX12_copies_17 rfl (lv_at hl 2 rfl) ?_
        refine lv_iload hx hb dX12_copies_18 (lv_at hl 0 rfl) ?_
        refine lv_iadd hx hb dX12_copies_20 ?_
        refine lv_topi (fun v_2238 v_2238_e => ?_)
        have h_v_2238 : 0 ≤ (v_2238 : Int32).toInt ∧ (v_2238 : Int32).toInt ≤ 192 := by rw [v_2238_e]; exact tr_add h_p1 h_2236 (by decide) (by decide) (by decide) (by decide)
        have q_v_2238 : v_2238.toInt = p1.toInt + x_2231.toInt := by rw [v_2238_e]; exact tr_addX h_p1 h_2236 (by decide) (by decide)
        refine va_iald hx hb hK hP 0 0 rfl rfl (tr_in h_v_2238 (by decide) (by decide)) dX12_copies_21 ?_
        refine lv_topi (fun v_2239 v_2239_e => ?_)
        have g_v_2239 : v_2239 = ff (p1.toInt.toNat + x_2231.toInt.toNat) := v_2239_e.trans (congrArg ff (by show Int.toNat _ = _; omega))
        have gi_v_2239 := congrArg Int32.toInt g_v_2239
        refine va_iast hx hb hK hP hD hS 1 0 rfl rfl (tr_in h_v_2237 (by decide) (by decide)) dX12_copies_22 (fun H locs hP hD hS => ?_)
        obtain ⟨f_2240, f_2240_e, hP, hD⟩ : ∃ FX : Nat → Int32, FX = (upd f_2232 (v_2237 : Int32).toNatClampNeg v_2239) ∧ va_P D vwCl [(wI g fa 0 193 ff), (wI g ta 0 1544 FX)] H ∧ va_D A [(wI g fa 0 193 ff), (wI g ta 0 1544 FX)] := ⟨_, rfl, hP, hD⟩
        have hP : va_P D vwCl [(wI g fa 0 193 ff), (wI g ta 0 1544 f_2240)] H := hP
        have hD : va_D A [(wI g fa 0 193 ff), (wI g ta 0 1544 f_2240)] := hD
        obtain ⟨v_2241, v_2241_e⟩ : ∃ y : Int32, y = x_2231 + Int32.ofInt 1 := ⟨_, rfl⟩
        have h_v_2241 : 1 ≤ (v_2241 : Int32).toInt ∧ (v_2241 : Int32).toInt ≤ 193 := by rw [v_2241_e]; exact tr_add h_2236 (⟨by decide, by decide⟩ : 1 ≤ (Int32.ofInt 1 : Int32).toInt ∧ (Int32.ofInt 1 : Int32).toInt ≤ 1) (by decide) (by decide) (by decide) (by decide)
        have q_v_2241 : v_2241.toInt = x_2231.toInt + 1 := by rw [v_2241_e]; exact tr_addE h_2236 (⟨by decide, by decide⟩ : 1 ≤ (Int32.ofInt 1 : Int32).toInt ∧ (Int32.ofInt 1 : Int32).toInt ≤ 1) (by decide) (by decide)
        refine lv_iinc (v := v_2241) (lv' := [(4, .int v_2241), (0, .ref fa), (1, .int p1), (2, .ref ta), (3, .int p3)]) hx hb dX12_copies_23 hl (k := 0) rfl v_2241_e.symm (by decide) rfl (fun ls hl => ?_)
        refine lv_goto (tgt := 3) hx hb dX12_copies_26 (by decide) ?_
        exact ih_2233 v_2241 f_2240 H _ ls (tr_w h_v_2241 (by decide) (by decide)) (by rw [f_2240_e, show v_2241.toInt.toNat = _ + 1 from (by omega : _ = x_2231.toInt.toNat + 1)]; exact va_cpy_step hr2233_0 (by show Int.toNat _ = _; omega) g_v_2239) (by omega) (hP.sub [0, 1] rfl) (hD.sub [0, 1] (by decide) rfl) hS (lv_sub hl [0, 1, 2, 3, 4] rfl)
  exact lp_2233 194 0 tf s.heap _ ls (⟨by decide, by decide⟩ : 0 ≤ (0 : Int32).toInt ∧ (0 : Int32).toInt ≤ 193) (va_cpy_zero _ _ _ _) (by decide) (hP.sub [0, 1] rfl) (hD.sub [0, 1] (by decide) rfl) hS (lv_sub hl [0, 1, 2, 3, 4] rfl)
set_option maxHeartbeats 4000000 in
set_option maxRecDepth 100000 in
theorem c_X12_copiesR (l : Launch) (D : va_G) (g : Nat → ClassId) (sz : Nat) (fa : Nat) (p1 : Int32) (ta : Nat) (p3 : Int32) (ff : Nat → Int32) (tf : Nat → Int32) (h_p1 : 0 ≤ (p1 : Int32).toInt ∧ (p1 : Int32).toInt ≤ 193) (h_p3 : 0 ≤ (p3 : Int32).toInt ∧ (p3 : Int32).toInt ≤ 0) : Met l yX12_copies (.code yX12_copies cX12_copies 5 none :: wsL_law) ({ frames := 0, cells := 0, slots := 0, locals := 0 }) (va_Pc [.ref fa, .int p1, .ref ta, .int p3] (fun U => U.heap.size = sz ∧ va_P D vwCl [(wI g fa 0 386 ff), (wI g ta 0 193 tf)] U.heap ∧ va_K D vwCl (TY g) U ∧ va_D (fun _ => True) [(wI g fa 0 386 ff), (wI g ta 0 193 tf)])) (va_Qv (fun (_ : Unit) => True) (fun _ t => ∃ otf : Nat → Int32, (otf = va_cpy ff tf (p1 : Int32).toInt.toNat (p3 : Int32).toInt.toNat 193) ∧ va_P D vwCl [(wI g fa 0 386 ff), (wI g ta 0 193 otf)] t.heap ∧ va_D (va_A [(wI g fa 0 386 ff), (wI g ta 0 193 tf)] sz) [(wI g fa 0 386 ff), (wI g ta 0 193 otf)]) (va_A [(wI g fa 0 386 ff), (wI g ta 0 193 tf)] sz)) 0 0 (va_A [(wI g fa 0 386 ff), (wI g ta 0 193 tf)] sz) := by
  refine Met.ofW (cc := cX12_copies) (maxL := 5) (ret := none) (by decide) rfl ?_
  intro p e s m args below meth c s₁ B hml hv
  obtain ⟨ha, hsz, hP, hK, hD0⟩ := hv
  have hx := B.exec
  have hb := B.bytes
  have hr := B.returns
  have hts0 := atoms_spec (ws := (.code yX12_copies cX12_copies 5 none :: wsL_law)) B.pre
  have hts : ∀ w ∈ wsL_law, w.before args s = true := fun w h => hts0 w (List.mem_cons_of_mem _ h)
  have hown : s.vm.findClass RX12 = some m.cls := findClass_of_methodNamed B.named
  have hlocks := B.notSynchronized
  subst hsz
  have hD := hD0.self (sz := s.heap.size)
  generalize hAe : va_A [(wI g fa 0 386 ff), (wI g ta 0 193 tf)] s.heap.size = A at hD ⊢
  have hA : ∀ q : Nat, s.heap.size ≤ q → A q := fun q h => by rw [← hAe]; exact Or.inr h
  have hS : va_S A s.heap s.heap [] := va_S.rf
  have hP : va_P D vwCl [(wI g fa 0 386 ff), (wI g ta 0 193 tf)] s.heap := hP
  refine W.eq (g2 := entryFrame m ([.ref fa, .int p1, .ref ta, .int p3] : List Value).toArray 5) (by rw [ha]) ?_
  have hl := lv_entry ([.ref fa, .int p1, .ref ta, .int p3]) (n := 5) (Nat.le_of_ble_eq_true rfl)
  rw [lg_entry_eq]
  generalize (lg_sl ([.ref fa, .int p1, .ref ta, .int p3]) ++ List.replicate (5 - (lg_sl ([.ref fa, .int p1, .ref ta, .int p3])).length) Slot.unset).toArray = ls at hl ⊢
  have hl : lv_has ls 5 [(0, .ref fa), (1, .int p1), (2, .ref ta), (3, .int p3)] := hl
  refine lv_iconst (v := 0) hx hb dX12_copies_0 (by decide) ?_
  refine lv_istore (lv' := [(4, .int 0), (0, .ref fa), (1, .int p1), (2, .ref ta), (3, .int p3)]) hx hb dX12_copies_1 hl (by decide) rfl (fun ls hl => ?_)
  have lp_2263 : ∀ (n_2263 : Nat) (x_2261 : Int32) (f_2262 : Nat → Int32) (H : Heap) (locs : List Loc) (ls : Array Slot), (0 ≤ (x_2261 : Int32).toInt ∧ (x_2261 : Int32).toInt ≤ 193) → (f_2262 = va_cpy ff tf p1.toInt.toNat p3.toInt.toNat x_2261.toInt.toNat) → (193 - x_2261.toInt < (n_2263 : Int)) → va_P D vwCl [(wI g fa 0 386 ff), (wI g ta 0 193 f_2262)] H → va_D A [(wI g fa 0 386 ff), (wI g ta 0 193 f_2262)] → va_S A s.heap H locs → lv_has ls 5 [(4, .int x_2261), (0, .ref fa), (1, .int p1), (2, .ref ta), (3, .int p3)] → W p l e (headSpec (.code yX12_copies cX12_copies 5 none :: wsL_law) ({ frames := 0, cells := 0, slots := 0, locals := 0 })).room s m args below meth c H locs 0 0 (MQ below (va_Qv (fun (_ : Unit) => True) (fun _ t => ∃ otf : Nat → Int32, (otf = va_cpy ff tf (p1 : Int32).toInt.toNat (p3 : Int32).toInt.toNat 193) ∧ va_P D vwCl [(wI g fa 0 386 ff), (wI g ta 0 193 otf)] t.heap ∧ va_D A [(wI g fa 0 386 ff), (wI g ta 0 193 otf)]) A) args s 0 0 A) (F0 m 3 ls []) := by
    intro n_2263
    induction n_2263 with
    | zero =>
      intro x_2261 f_2262 H locs ls h_x_2261 hr2263_0 hm_2263 hP hD hS hl
      exfalso; omega
    | succ n_2263 ih_2263 =>
      intro x_2261 f_2262 H locs ls h_x_2261 hr2263_0 hm_2263 hP hD hS hl
      refine lv_iload hx hb dX12_copies_3 (lv_at hl 0 rfl) ?_
      refine lv_sipush (v := 193) hx hb dX12_copies_5 (by decide) ?_
      refine lv_icmp_ge (tgt := 29) hx hb dX12_copies_8 (by decide) (fun c_2264 => ?_) (fun c_2264 => ?_)
      · skip
        have kk_193 := tk_193
        have c_2264_i := Int32.le_iff_toInt_le.mp c_2264
        have h_2265 : 193 ≤ (x_2261 : Int32).toInt ∧ (x_2261 : Int32).toInt ≤ 193 := nr_le_r (⟨by decide, by decide⟩ : 193 ≤ (193 : Int32).toInt ∧ (193 : Int32).toInt ≤ 193) h_x_2261 c_2264_i (by decide) (by decide)
        have hP9 := hP.sub (ws' := [(wI g fa 0 386 ff), (wI g ta 0 193 f_2262)]) [0, 1] rfl
        have hD9 := hD.sub (ws' := [(wI g fa 0 386 ff), (wI g ta 0 193 f_2262)]) [0, 1] (by decide) rfl
        exact W.vret hx hb hr (fun t ht hW => ⟨⟨(), rfl, trivial, f_2262, (hr2263_0.trans (congrArg (va_cpy ff tf p1.toInt.toNat p3.toInt.toNat) (by have z_193 := tk_193; omega))), by rw [ht]; exact hP9, hD9⟩, hS.F ht⟩) hS.2.2 dX12_copies_29
      · skip
        have kk_193 := tk_193
        have c_2264_i := Int32.lt_iff_toInt_lt.mp (Int32.not_le.mp c_2264)
        have h_2266 : 0 ≤ (x_2261 : Int32).toInt ∧ (x_2261 : Int32).toInt ≤ 192 := nr_lt_l h_x_2261 (⟨by decide, by decide⟩ : 193 ≤ (193 : Int32).toInt ∧ (193 : Int32).toInt ≤ 193) c_2264_i (by decide) (by decide)
        refine lv_aload_n hx hb dX12_copies_11 rfl (lv_at hl 3 rfl) ?_
        refine lv_iload_n hx hb dX12_copies_12 rfl (lv_at hl 4 rfl) ?_
        refine lv_iload hx hb dX12_copies_13 (lv_at hl 0 rfl) ?_
        refine lv_iadd hx hb dX12_copies_15 ?_
        refine lv_topi (fun v_2267 v_2267_e => ?_)
        have h_v_2267 : 0 ≤ (v_2267 : Int32).toInt ∧ (v_2267 : Int32).toInt ≤ 192 := by rw [v_2267_e]; exact tr_add h_p3 h_2266 (by decide) (by decide) (by decide) (by decide)
        have q_v_2267 : v_2267.toInt = p3.toInt + x_2261.toInt := by rw [v_2267_e]; exact tr_addX h_p3 h_2266 (by decide) (by decide)
        refine lv_aload_n hx hb dX12_copies_16 rfl (lv_at hl 1 rfl) ?_
        refine lv_iload_n hx hb dX12_copies_17 rfl (lv_at hl 2 rfl) ?_
        refine lv_iload hx hb dX12_copies_18 (lv_at hl 0 rfl) ?_
        refine lv_iadd hx hb dX12_copies_20 ?_
        refine lv_topi (fun v_2268 v_2268_e => ?_)
        have h_v_2268 : 0 ≤ (v_2268 : Int32).toInt ∧ (v_2268 : Int32).toInt ≤ 385 := by rw [v_2268_e]; exact tr_add h_p1 h_2266 (by decide) (by decide) (by decide) (by decide)
        have q_v_2268 : v_2268.toInt = p1.toInt + x_2261.toInt := by rw [v_2268_e]; exact tr_addX h_p1 h_2266 (by decide) (by decide)
        refine va_iald hx hb hK hP 0 0 rfl rfl (tr_in h_v_2268 (by decide) (by decide)) dX12_copies_21 ?_
        refine lv_topi (fun v_2269 v_2269_e => ?_)
        have g_v_2269 : v_2269 = ff (p1.toInt.toNat + x_2261.toInt.toNat) := v_2269_e.trans (congrArg ff (by show Int.toNat _ = _; omega))
        have gi_v_2269 := congrArg Int32.toInt g_v_2269
        refine va_iast hx hb hK hP hD hS 1 0 rfl rfl (tr_in h_v_2267 (by decide) (by decide)) dX12_copies_22 (fun H locs hP hD hS => ?_)
        obtain ⟨f_2270, f_2270_e, hP, hD⟩ : ∃ FX : Nat → Int32, FX = (upd f_2262 (v_2267 : Int32).toNatClampNeg v_2269) ∧ va_P D vwCl [(wI g fa 0 386 ff), (wI g ta 0 193 FX)] H ∧ va_D A [(wI g fa 0 386 ff), (wI g ta 0 193 FX)] := ⟨_, rfl, hP, hD⟩
        have hP : va_P D vwCl [(wI g fa 0 386 ff), (wI g ta 0 193 f_2270)] H := hP
        have hD : va_D A [(wI g fa 0 386 ff), (wI g ta 0 193 f_2270)] := hD
        obtain ⟨v_2271, v_2271_e⟩ : ∃ y : Int32, y = x_2261 + Int32.ofInt 1 := ⟨_, rfl⟩
        have h_v_2271 : 1 ≤ (v_2271 : Int32).toInt ∧ (v_2271 : Int32).toInt ≤ 193 := by rw [v_2271_e]; exact tr_add h_2266 (⟨by decide, by decide⟩ : 1 ≤ (Int32.ofInt 1 : Int32).toInt ∧ (Int32.ofInt 1 : Int32).toInt ≤ 1) (by decide) (by decide) (by decide) (by decide)
        have q_v_2271 : v_2271.toInt = x_2261.toInt + 1 := by rw [v_2271_e]; exact tr_addE h_2266 (⟨by decide, by decide⟩ : 1 ≤ (Int32.ofInt 1 : Int32).toInt ∧ (Int32.ofInt 1 : Int32).toInt ≤ 1) (by decide) (by decide)
        refine lv_iinc (v := v_2271) (lv' := [(4, .int v_2271), (0, .ref fa), (1, .int p1), (2, .ref ta), (3, .int p3)]) hx hb dX12_copies_23 hl (k := 0) rfl v_2271_e.symm (by decide) rfl (fun ls hl => ?_)
        refine lv_goto (tgt := 3) hx hb dX12_copies_26 (by decide) ?_
        exact ih_2263 v_2271 f_2270 H _ ls (tr_w h_v_2271 (by decide) (by decide)) (by rw [f_2270_e, show v_2271.toInt.toNat = _ + 1 from (by omega : _ = x_2261.toInt.toNat + 1)]; exact va_cpy_step hr2263_0 (by show Int.toNat _ = _; omega) g_v_2269) (by omega) (hP.sub [0, 1] rfl) (hD.sub [0, 1] (by decide) rfl) hS (lv_sub hl [0, 1, 2, 3, 4] rfl)
  exact lp_2263 194 0 tf s.heap _ ls (⟨by decide, by decide⟩ : 0 ≤ (0 : Int32).toInt ∧ (0 : Int32).toInt ≤ 193) (va_cpy_zero _ _ _ _) (by decide) (hP.sub [0, 1] rfl) (hD.sub [0, 1] (by decide) rfl) hS (lv_sub hl [0, 1, 2, 3, 4] rfl)
set_option maxHeartbeats 4000000 in
set_option maxRecDepth 100000 in
theorem c_X12_copiesB (l : Launch) (D : va_G) (g : Nat → ClassId) (sz : Nat) (fa : Nat) (p1 : Int32) (ta : Nat) (p3 : Int32) (ff : Nat → Int32) (tf : Nat → Int32) (h_p1 : 0 ≤ (p1 : Int32).toInt ∧ (p1 : Int32).toInt ≤ 1351) (h_p3 : 0 ≤ (p3 : Int32).toInt ∧ (p3 : Int32).toInt ≤ 0) : Met l yX12_copies (.code yX12_copies cX12_copies 5 none :: wsL_law) ({ frames := 0, cells := 0, slots := 0, locals := 0 }) (va_Pc [.ref fa, .int p1, .ref ta, .int p3] (fun U => U.heap.size = sz ∧ va_P D vwCl [(wI g fa 0 1544 ff), (wI g ta 0 193 tf)] U.heap ∧ va_K D vwCl (TY g) U ∧ va_D (fun _ => True) [(wI g fa 0 1544 ff), (wI g ta 0 193 tf)])) (va_Qv (fun (_ : Unit) => True) (fun _ t => ∃ otf : Nat → Int32, (otf = va_cpy ff tf (p1 : Int32).toInt.toNat (p3 : Int32).toInt.toNat 193) ∧ va_P D vwCl [(wI g fa 0 1544 ff), (wI g ta 0 193 otf)] t.heap ∧ va_D (va_A [(wI g fa 0 1544 ff), (wI g ta 0 193 tf)] sz) [(wI g fa 0 1544 ff), (wI g ta 0 193 otf)]) (va_A [(wI g fa 0 1544 ff), (wI g ta 0 193 tf)] sz)) 0 0 (va_A [(wI g fa 0 1544 ff), (wI g ta 0 193 tf)] sz) := by
  refine Met.ofW (cc := cX12_copies) (maxL := 5) (ret := none) (by decide) rfl ?_
  intro p e s m args below meth c s₁ B hml hv
  obtain ⟨ha, hsz, hP, hK, hD0⟩ := hv
  have hx := B.exec
  have hb := B.bytes
  have hr := B.returns
  have hts0 := atoms_spec (ws := (.code yX12_copies cX12_copies 5 none :: wsL_law)) B.pre
  have hts : ∀ w ∈ wsL_law, w.before args s = true := fun w h => hts0 w (List.mem_cons_of_mem _ h)
  have hown : s.vm.findClass RX12 = some m.cls := findClass_of_methodNamed B.named
  have hlocks := B.notSynchronized
  subst hsz
  have hD := hD0.self (sz := s.heap.size)
  generalize hAe : va_A [(wI g fa 0 1544 ff), (wI g ta 0 193 tf)] s.heap.size = A at hD ⊢
  have hA : ∀ q : Nat, s.heap.size ≤ q → A q := fun q h => by rw [← hAe]; exact Or.inr h
  have hS : va_S A s.heap s.heap [] := va_S.rf
  have hP : va_P D vwCl [(wI g fa 0 1544 ff), (wI g ta 0 193 tf)] s.heap := hP
  refine W.eq (g2 := entryFrame m ([.ref fa, .int p1, .ref ta, .int p3] : List Value).toArray 5) (by rw [ha]) ?_
  have hl := lv_entry ([.ref fa, .int p1, .ref ta, .int p3]) (n := 5) (Nat.le_of_ble_eq_true rfl)
  rw [lg_entry_eq]
  generalize (lg_sl ([.ref fa, .int p1, .ref ta, .int p3]) ++ List.replicate (5 - (lg_sl ([.ref fa, .int p1, .ref ta, .int p3])).length) Slot.unset).toArray = ls at hl ⊢
  have hl : lv_has ls 5 [(0, .ref fa), (1, .int p1), (2, .ref ta), (3, .int p3)] := hl
  refine lv_iconst (v := 0) hx hb dX12_copies_0 (by decide) ?_
  refine lv_istore (lv' := [(4, .int 0), (0, .ref fa), (1, .int p1), (2, .ref ta), (3, .int p3)]) hx hb dX12_copies_1 hl (by decide) rfl (fun ls hl => ?_)
  have lp_2293 : ∀ (n_2293 : Nat) (x_2291 : Int32) (f_2292 : Nat → Int32) (H : Heap) (locs : List Loc) (ls : Array Slot), (0 ≤ (x_2291 : Int32).toInt ∧ (x_2291 : Int32).toInt ≤ 193) → (f_2292 = va_cpy ff tf p1.toInt.toNat p3.toInt.toNat x_2291.toInt.toNat) → (193 - x_2291.toInt < (n_2293 : Int)) → va_P D vwCl [(wI g fa 0 1544 ff), (wI g ta 0 193 f_2292)] H → va_D A [(wI g fa 0 1544 ff), (wI g ta 0 193 f_2292)] → va_S A s.heap H locs → lv_has ls 5 [(4, .int x_2291), (0, .ref fa), (1, .int p1), (2, .ref ta), (3, .int p3)] → W p l e (headSpec (.code yX12_copies cX12_copies 5 none :: wsL_law) ({ frames := 0, cells := 0, slots := 0, locals := 0 })).room s m args below meth c H locs 0 0 (MQ below (va_Qv (fun (_ : Unit) => True) (fun _ t => ∃ otf : Nat → Int32, (otf = va_cpy ff tf (p1 : Int32).toInt.toNat (p3 : Int32).toInt.toNat 193) ∧ va_P D vwCl [(wI g fa 0 1544 ff), (wI g ta 0 193 otf)] t.heap ∧ va_D A [(wI g fa 0 1544 ff), (wI g ta 0 193 otf)]) A) args s 0 0 A) (F0 m 3 ls []) := by
    intro n_2293
    induction n_2293 with
    | zero =>
      intro x_2291 f_2292 H locs ls h_x_2291 hr2293_0 hm_2293 hP hD hS hl
      exfalso; omega
    | succ n_2293 ih_2293 =>
      intro x_2291 f_2292 H locs ls h_x_2291 hr2293_0 hm_2293 hP hD hS hl
      refine lv_iload hx hb dX12_copies_3 (lv_at hl 0 rfl) ?_
      refine lv_sipush (v := 193) hx hb dX12_copies_5 (by decide) ?_
      refine lv_icmp_ge (tgt := 29) hx hb dX12_copies_8 (by decide) (fun c_2294 => ?_) (fun c_2294 => ?_)
      · skip
        have kk_193 := tk_193
        have c_2294_i := Int32.le_iff_toInt_le.mp c_2294
        have h_2295 : 193 ≤ (x_2291 : Int32).toInt ∧ (x_2291 : Int32).toInt ≤ 193 := nr_le_r (⟨by decide, by decide⟩ : 193 ≤ (193 : Int32).toInt ∧ (193 : Int32).toInt ≤ 193) h_x_2291 c_2294_i (by decide) (by decide)
        have hP9 := hP.sub (ws' := [(wI g fa 0 1544 ff), (wI g ta 0 193 f_2292)]) [0, 1] rfl
        have hD9 := hD.sub (ws' := [(wI g fa 0 1544 ff), (wI g ta 0 193 f_2292)]) [0, 1] (by decide) rfl
        exact W.vret hx hb hr (fun t ht hW => ⟨⟨(), rfl, trivial, f_2292, (hr2293_0.trans (congrArg (va_cpy ff tf p1.toInt.toNat p3.toInt.toNat) (by have z_193 := tk_193; omega))), by rw [ht]; exact hP9, hD9⟩, hS.F ht⟩) hS.2.2 dX12_copies_29
      · skip
        have kk_193 := tk_193
        have c_2294_i := Int32.lt_iff_toInt_lt.mp (Int32.not_le.mp c_2294)
        have h_2296 : 0 ≤ (x_2291 : Int32).toInt ∧ (x_2291 : Int32).toInt ≤ 192 := nr_lt_l h_x_2291 (⟨by decide, by decide⟩ : 193 ≤ (193 : Int32).toInt ∧ (193 : Int32).toInt ≤ 193) c_2294_i (by decide) (by decide)
        refine lv_aload_n hx hb dX12_copies_11 rfl (lv_at hl 3 rfl) ?_
        refine lv_iload_n hx hb dX12_copies_12 rfl (lv_at hl 4 rfl) ?_
        refine lv_iload hx hb dX12_copies_13 (lv_at hl 0 rfl) ?_
        refine lv_iadd hx hb dX12_copies_15 ?_
        refine lv_topi (fun v_2297 v_2297_e => ?_)
        have h_v_2297 : 0 ≤ (v_2297 : Int32).toInt ∧ (v_2297 : Int32).toInt ≤ 192 := by rw [v_2297_e]; exact tr_add h_p3 h_2296 (by decide) (by decide) (by decide) (by decide)
        have q_v_2297 : v_2297.toInt = p3.toInt + x_2291.toInt := by rw [v_2297_e]; exact tr_addX h_p3 h_2296 (by decide) (by decide)
        refine lv_aload_n hx hb dX12_copies_16 rfl (lv_at hl 1 rfl) ?_
        refine lv_iload_n hx hb dX12_copies_17 rfl (lv_at hl 2 rfl) ?_
        refine lv_iload hx hb dX12_copies_18 (lv_at hl 0 rfl) ?_
        refine lv_iadd hx hb dX12_copies_20 ?_
        refine lv_topi (fun v_2298 v_2298_e => ?_)
        have h_v_2298 : 0 ≤ (v_2298 : Int32).toInt ∧ (v_2298 : Int32).toInt ≤ 1543 := by rw [v_2298_e]; exact tr_add h_p1 h_2296 (by decide) (by decide) (by decide) (by decide)
        have q_v_2298 : v_2298.toInt = p1.toInt + x_2291.toInt := by rw [v_2298_e]; exact tr_addX h_p1 h_2296 (by decide) (by decide)
        refine va_iald hx hb hK hP 0 0 rfl rfl (tr_in h_v_2298 (by decide) (by decide)) dX12_copies_21 ?_
        refine lv_topi (fun v_2299 v_2299_e => ?_)
        have g_v_2299 : v_2299 = ff (p1.toInt.toNat + x_2291.toInt.toNat) := v_2299_e.trans (congrArg ff (by show Int.toNat _ = _; omega))
        have gi_v_2299 := congrArg Int32.toInt g_v_2299
        refine va_iast hx hb hK hP hD hS 1 0 rfl rfl (tr_in h_v_2297 (by decide) (by decide)) dX12_copies_22 (fun H locs hP hD hS => ?_)
        obtain ⟨f_2300, f_2300_e, hP, hD⟩ : ∃ FX : Nat → Int32, FX = (upd f_2292 (v_2297 : Int32).toNatClampNeg v_2299) ∧ va_P D vwCl [(wI g fa 0 1544 ff), (wI g ta 0 193 FX)] H ∧ va_D A [(wI g fa 0 1544 ff), (wI g ta 0 193 FX)] := ⟨_, rfl, hP, hD⟩
        have hP : va_P D vwCl [(wI g fa 0 1544 ff), (wI g ta 0 193 f_2300)] H := hP
        have hD : va_D A [(wI g fa 0 1544 ff), (wI g ta 0 193 f_2300)] := hD
        obtain ⟨v_2301, v_2301_e⟩ : ∃ y : Int32, y = x_2291 + Int32.ofInt 1 := ⟨_, rfl⟩
        have h_v_2301 : 1 ≤ (v_2301 : Int32).toInt ∧ (v_2301 : Int32).toInt ≤ 193 := by rw [v_2301_e]; exact tr_add h_2296 (⟨by decide, by decide⟩ : 1 ≤ (Int32.ofInt 1 : Int32).toInt ∧ (Int32.ofInt 1 : Int32).toInt ≤ 1) (by decide) (by decide) (by decide) (by decide)
        have q_v_2301 : v_2301.toInt = x_2291.toInt + 1 := by rw [v_2301_e]; exact tr_addE h_2296 (⟨by decide, by decide⟩ : 1 ≤ (Int32.ofInt 1 : Int32).toInt ∧ (Int32.ofInt 1 : Int32).toInt ≤ 1) (by decide) (by decide)
        refine lv_iinc (v := v_2301) (lv' := [(4, .int v_2301), (0, .ref fa), (1, .int p1), (2, .ref ta), (3, .int p3)]) hx hb dX12_copies_23 hl (k := 0) rfl v_2301_e.symm (by decide) rfl (fun ls hl => ?_)
        refine lv_goto (tgt := 3) hx hb dX12_copies_26 (by decide) ?_
        exact ih_2293 v_2301 f_2300 H _ ls (tr_w h_v_2301 (by decide) (by decide)) (by rw [f_2300_e, show v_2301.toInt.toNat = _ + 1 from (by omega : _ = x_2291.toInt.toNat + 1)]; exact va_cpy_step hr2293_0 (by show Int.toNat _ = _; omega) g_v_2299) (by omega) (hP.sub [0, 1] rfl) (hD.sub [0, 1] (by decide) rfl) hS (lv_sub hl [0, 1, 2, 3, 4] rfl)
  exact lp_2293 194 0 tf s.heap _ ls (⟨by decide, by decide⟩ : 0 ≤ (0 : Int32).toInt ∧ (0 : Int32).toInt ≤ 193) (va_cpy_zero _ _ _ _) (by decide) (hP.sub [0, 1] rfl) (hD.sub [0, 1] (by decide) rfl) hS (lv_sub hl [0, 1, 2, 3, 4] rfl)
theorem all_next {P : Nat → Prop} {i j : Nat} (h : ∀ k : Nat, k < i → P k) (hi : P i) (e : j = i + 1) : ∀ k : Nat, k < j → P k := fun k hk => by
  by_cases q : k = i
  · subst q; exact hi
  · exact h k (by omega)
theorem upd_fill2 {F G : Nat → Int32} {v x : Int32} {i j a : Nat} (h : ∀ k : Nat, k < i → F k = v) (hG : G = upd F a x) (ha : a = i) (hx : x = v) (e : j = i + 1) : ∀ k : Nat, k < j → G k = v := by
  subst e; exact upd_fill h hG ha hx
theorem held_fill {F G : Nat → Int32} {x : Int32} {i j a : Nat} (h : (∀ k : Nat, k < 193 → (k < 109 ∨ 121 ≤ k) → F k = 0) ∧ ∀ k : Nat, k < i → F (109 + k) = (-1)) (hG : G = upd F a x) (ha : a = 109 + i) (hi : i < 12) (hx : x = (-1)) (e : j = i + 1) : (∀ k : Nat, k < 193 → (k < 109 ∨ 121 ≤ k) → G k = 0) ∧ ∀ k : Nat, k < j → G (109 + k) = (-1) := by
  subst hx ha e hG
  refine ⟨fun k q1 q2 => ?_, fun k q => ?_⟩
  · rw [upd_ne _ _ (by omega)]; exact h.1 k q1 q2
  · by_cases e : k = i
    · subst e; rw [upd_at]
    · rw [upd_ne _ _ (by omega)]; exact h.2 k (by omega)
theorem gp_fill {F : Nat → Int32} (h : (∀ k : Nat, k < 193 → (k < 109 ∨ 121 ≤ k) → F k = 0) ∧ ∀ k : Nat, k < 12 → F (109 + k) = (-1)) : GP F := gp_zero h.1 (fun k q => Or.inl (h.2 k q))
/-- the tried ways: each one a way of its node, the held one where one is held -/
def tw1 (f : Nat → Int32) (v : Int) (k : Nat) : Prop := (¬ (f (1 + k)).toInt = 0 → v < (f (25 + k)).toInt) ∧ (0 ≤ (f (109 + k)).toInt → ¬ (f (1 + k)).toInt = 0 → v = (f (109 + k)).toInt)
def TW (t f : Nat → Int32) : Prop := ∀ k : Nat, k < 12 → tw1 f (t k).toInt k
theorem tw_next {f F G : Nat → Int32} {x : Int32} {i j a : Nat} (h : ∀ k : Nat, k < i → tw1 f (F k).toInt k) (hG : G = upd F a x) (ha : a = i) (hx : tw1 f x.toInt i) (e : j = i + 1) : ∀ k : Nat, k < j → tw1 f (G k).toInt k := by
  subst ha e hG
  refine all_next (i := a) (fun k q => ?_) ?_ rfl
  · rw [upd_ne _ _ (by omega)]; exact h k q
  · rw [upd_at]; exact hx
theorem tw_zero {f : Nat → Int32} (h : GS f) {x : Int32} (hx : x.toInt = 0) {k : Nat} (hk : k < 12) (hh : (k : Int) < (f 0).toInt → (f (109 + k)).toInt ≤ 0) : tw1 f x.toInt k := by
  rw [hx]
  refine ⟨fun e => ?_, fun e1 e2 => ?_⟩
  · have := h.2 k hk e; omega
  · by_cases q : (f 0).toInt ≤ k
    · exact absurd (h.1.2.1 k hk q).1 e2
    · have := hh (by omega); omega
theorem tw_held {f : Nat → Int32} (h : GS f) {x : Int32} {k : Nat} (hk : k < 12) (hx : x = f (109 + k)) : tw1 f x.toInt k := by
  subst hx
  exact ⟨fun e => h.1.2.2.2.2.2.1 k hk e, fun _ _ => rfl⟩
/-- so many rows, one behind the other -/
def KS (f : Nat → Int32) (n : Nat) : Prop := ∀ j : Nat, j < n → GS (sl f (193 * j))
theorem ks_put {f h g : Nat → Int32} {n u a b : Nat} (hK : KS h n) (hf : GS f) (ha : a = 0) (hb : b = 193 * u) (hg : g = va_cpy f h a b 193) : KS g n := fun j hj => by
  subst ha hb
  by_cases e : j = u
  · subst e
    exact gs_cpy_in (by rw [sl_zero]; exact hf) hg
  · exact gs_cpy_out (hK j hj) hg (by omega)
theorem ks_get {f h g : Nat → Int32} {n u a b : Nat} (hK : KS f n) (hu : u < n) (ha : a = 193 * u) (hb : b = 0) (hg : g = va_cpy f h a b 193) : GS g := by
  subst ha hb
  have := gs_cpy_in (hK u hu) hg
  rwa [sl_zero] at this
theorem gs_copy {f h g : Nat → Int32} {a b : Nat} (hf : GS f) (ha : a = 0) (hb : b = 0) (hg : g = va_cpy f h a b 193) : GS g := by
  subst ha hb
  have := gs_cpy_in (sp := 0) (dp := 0) (by rw [sl_zero]; exact hf) hg
  rwa [sl_zero] at this
theorem ks_shift {f F : Nat → Int32} {i : Nat} (hi : i = 1351) (h : (∀ j : Nat, j < i → F j = f (j + 193)) ∧ ∀ j : Nat, i ≤ j → F j = f j) (hK : KS f 8) : KS F 8 := fun j hj => by
  subst hi
  by_cases e : j = 7
  · subst e
    exact gs_cong (hK 7 (by omega)) (fun k hk => h.2 _ (by omega))
  · refine gs_cong (hK (j + 1) (by omega)) (fun k hk => ?_)
    show F (193 * j + k) = f (193 * (j + 1) + k)
    rw [h.1 _ (by omega)]
    congr 1; omega
theorem shift_next {f F G : Nat → Int32} {x : Int32} {i j a : Nat} (h : (∀ j : Nat, j < i → F j = f (j + 193)) ∧ ∀ j : Nat, i ≤ j → F j = f j) (hG : G = upd F a x) (ha : a = i) (hx : x = F (i + 193)) (e : j = i + 1) : (∀ k : Nat, k < j → G k = f (k + 193)) ∧ ∀ k : Nat, j ≤ k → G k = f k := by
  subst ha e hG hx
  refine ⟨fun k q => ?_, fun k q => ?_⟩
  · by_cases e : k = a
    · subst e; rw [upd_at, h.2 _ (by omega)]
    · rw [upd_ne _ _ e]; exact h.1 k (by omega)
  · rw [upd_ne _ _ (by omega)]; exact h.2 k (by omega)
theorem gc_mono {f : Nat → Int32} {d : Int} : ∀ {a b : Nat}, a ≤ b → (a : Int) - gc f d a ≤ (b : Int) - gc f d b := by
  intro a b h
  induction b with
  | zero => obtain rfl : a = 0 := by omega
            exact Int.le_refl _
  | succ b ih =>
    by_cases e : a = b + 1
    · subst e; exact Int.le_refl _
    · have := ih (by omega)
      show _ ≤ _ - (gc f d b + _)
      split <;> omega
theorem gs_inner {f : Nat → Int32} (h : GS f) {k : Nat} (hk : (k : Int) ≤ (f 0).toInt) : (k : Int) - gc f 0 k ≤ 8 := by
  have h1 := gc_mono (f := f) (d := 0) (a := k) (b := (f 0).toInt.toNat) (by omega)
  have h2 := h.1.2.2.2.2.2.2.2.1
  have h3 := h.r.1
  omega
theorem tell_next {f : Nat → Int32} (h : GS f) {k : Nat} {t i : Int} (hk : k < 12) (ht : t ≤ 192 + 69 * ((k : Int) - gc f 0 k) + 23 * i) (hi : i ≤ (f (25 + k)).toInt) : t ≤ 192 + 69 * (((k + 1 : Nat) : Int) - gc f 0 (k + 1)) := by
  have h1 := (h.r.2.1 k hk).2.2.1
  have e : gc f 0 (k + 1) = gc f 0 k + (if (f (1 + k)).toInt = 0 then 1 else 0) := rfl
  rw [e]
  by_cases q : (f (1 + k)).toInt = 0
  · rw [if_pos q]
    have := h.1.2.2.1 k hk q
    omega
  · rw [if_neg q]
    omega
