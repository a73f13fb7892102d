set_option maxHeartbeats 4000000 in
set_option maxRecDepth 100000 in
theorem c_X12_known (l : Launch) (D : va_G) (g : Nat → ClassId) (kn : Nat) (kf : Nat → Int32) (A : Nat → Prop) (mm : Nat) (i_thrown : Int32) (m_s : Nat) (m_spare : Nat) (m_kept : Nat) (m_undone : Nat) (m_triedWay : Nat) (m_isKept : Nat) (i_undoMany : Int32) (m_tape : Nat) (i_length : Int32) (i_size : Int32) (i_p : Int32) (i_at : Int32) (i_token : Int32) (i_number : Int32) (i_letterMany : Int32) (i_fault : Int32) (i_faultAt : Int32) (m_letters : Nat) (i_isKnown : Int32) (m_choice : Nat) (m_row : Nat) (m_up : Nat) (m_low : Nat) (m_m : Nat) (m_bestUp : Nat) (m_bestLow : Nat) (m_replyUp : Nat) (m_replyLow : Nat) (m_worthUp : Nat) (m_worthLow : Nat) (m_bestWay : Nat) (i_seed : Int32) (m_told : Nat) (i_toldMany : Int32) (lf : Nat → Int32) (h_i_undoMany : 0 ≤ (i_undoMany : Int32).toInt ∧ (i_undoMany : Int32).toInt ≤ 8) (h_i_length : 0 ≤ (i_length : Int32).toInt ∧ (i_length : Int32).toInt ≤ 440) (h_i_size : 0 ≤ (i_size : Int32).toInt ∧ (i_size : Int32).toInt ≤ 440) (h_i_p : 0 ≤ (i_p : Int32).toInt ∧ (i_p : Int32).toInt ≤ 440) (h_i_at : 0 ≤ (i_at : Int32).toInt ∧ (i_at : Int32).toInt ≤ 440) (h_i_token : 0 ≤ (i_token : Int32).toInt ∧ (i_token : Int32).toInt ≤ 4) (h_i_number : 0 ≤ (i_number : Int32).toInt ∧ (i_number : Int32).toInt ≤ 814) (h_i_letterMany : (-440) ≤ (i_letterMany : Int32).toInt ∧ (i_letterMany : Int32).toInt ≤ 440) (h_i_faultAt : 0 ≤ (i_faultAt : Int32).toInt ∧ (i_faultAt : Int32).toInt ≤ 440) (h_i_isKnown : 0 ≤ (i_isKnown : Int32).toInt ∧ (i_isKnown : Int32).toInt ≤ 1) (h_i_toldMany : 0 ≤ (i_toldMany : Int32).toInt ∧ (i_toldMany : Int32).toInt ≤ 900) : Met l yX12_known (.code yX12_known cX12_known 4 (some .int) :: wsL_law) ({ frames := 0, cells := 0, slots := 0, locals := 0 }) (va_Pc [.ref mm] (fun U => va_P D vwCl [(mm, .inr (12, (.int i_thrown :: .ref m_s :: .ref m_spare :: .ref m_kept :: .ref m_undone :: .ref m_triedWay :: .ref m_isKept :: .int i_undoMany :: .ref m_tape :: .int i_length :: .int i_size :: .int i_p :: .int i_at :: .int i_token :: .int i_number :: .int i_letterMany :: .int i_fault :: .int i_faultAt :: .ref m_letters :: .int i_isKnown :: .ref m_choice :: .ref m_row :: .ref m_up :: .ref m_low :: .ref m_m :: .ref m_bestUp :: .ref m_bestLow :: .ref m_replyUp :: .ref m_replyLow :: .ref m_worthUp :: .ref m_worthLow :: .ref m_bestWay :: .int i_seed :: .ref m_told :: .int i_toldMany :: []))), (m_letters, .inl (g 2, 6, .inl lf))] U.heap ∧ va_K D vwCl (TY g) U ∧ ZK kn kf A U U.heap)) (vp_Si (fun r => ((-1) ≤ (r : Int32).toInt ∧ (r : Int32).toInt ≤ 4) ∧ (Hide ((r : Int32).toInt = -1 → (i_token : Int32).toInt = 1 → ∀ k : Nat, k < 5 → ¬ Mt6 (kw6 kf k) (pad lf (i_letterMany : Int32).toInt))) ∧ (Hide (0 ≤ (r : Int32).toInt → (i_token : Int32).toInt = 1 ∧ Mt6 (kw6 kf (r : Int32).toInt.toNat) (pad lf (i_letterMany : Int32).toInt))))) 0 0 (fun _ => False) := by
  refine Met.ofW (cc := cX12_known) (maxL := 4) (ret := (some .int)) (by decide) rfl ?_
  intro p e s m args below meth c s₁ B hml hv
  obtain ⟨ha, hP, hK, hZ⟩ := hv
  have hx := B.exec
  have hb := B.bytes
  have hr := B.returns
  have hts0 := atoms_spec (ws := (.code yX12_known cX12_known 4 (some .int) :: wsL_law)) B.pre
  have hts : ∀ w ∈ wsL_law, w.before args s = true := fun w h => hts0 w (List.mem_cons_of_mem _ h)
  have hown : s.vm.findClass RX12 = some m.cls := findClass_of_methodNamed B.named
  have hlocks := B.notSynchronized
  have hP : va_P D vwCl [(mm, .inr (12, (.int i_thrown :: .ref m_s :: .ref m_spare :: .ref m_kept :: .ref m_undone :: .ref m_triedWay :: .ref m_isKept :: .int i_undoMany :: .ref m_tape :: .int i_length :: .int i_size :: .int i_p :: .int i_at :: .int i_token :: .int i_number :: .int i_letterMany :: .int i_fault :: .int i_faultAt :: .ref m_letters :: .int i_isKnown :: .ref m_choice :: .ref m_row :: .ref m_up :: .ref m_low :: .ref m_m :: .ref m_bestUp :: .ref m_bestLow :: .ref m_replyUp :: .ref m_replyLow :: .ref m_worthUp :: .ref m_worthLow :: .ref m_bestWay :: .int i_seed :: .ref m_told :: .int i_toldMany :: []))), (m_letters, .inl (g 2, 6, .inl lf))] s.heap := hP
  refine W.eq (g2 := entryFrame m ([.ref mm] : List Value).toArray 4) (by rw [ha]) ?_
  have hl := lv_entry ([.ref mm]) (n := 4) (Nat.le_of_ble_eq_true rfl)
  rw [lg_entry_eq]
  generalize (lg_sl ([.ref mm]) ++ List.replicate (4 - (lg_sl ([.ref mm])).length) Slot.unset).toArray = ls at hl ⊢
  have hl : lv_has ls 4 [(0, .ref mm)] := hl
  refine lv_iconst (v := 0) hx hb dX12_known_0 (by decide) ?_
  refine lv_istore_n (lv' := [(1, .int 0), (0, .ref mm)]) hx hb dX12_known_1 rfl hl (by decide) rfl (fun ls hl => ?_)
  have lp_1843 : ∀ (n_1843 : Nat) (x_1842 : Int32) (ls : Array Slot), (0 ≤ (x_1842 : Int32).toInt ∧ (x_1842 : Int32).toInt ≤ 5) → (∀ k : Nat, k < x_1842.toInt.toNat → (i_token : Int32).toInt = 1 → ¬ Mt6 (kw6 kf k) (pad lf (i_letterMany : Int32).toInt)) → (5 - x_1842.toInt < (n_1843 : Int)) → lv_has ls 4 [(1, .int x_1842), (0, .ref mm)] → W p l e (headSpec (.code yX12_known cX12_known 4 (some .int) :: wsL_law) ({ frames := 0, cells := 0, slots := 0, locals := 0 })).room s m args below meth c s.heap [] 0 0 (MQ below (vp_Si (fun r => ((-1) ≤ (r : Int32).toInt ∧ (r : Int32).toInt ≤ 4) ∧ (Hide ((r : Int32).toInt = -1 → (i_token : Int32).toInt = 1 → ∀ k : Nat, k < 5 → ¬ Mt6 (kw6 kf k) (pad lf (i_letterMany : Int32).toInt))) ∧ (Hide (0 ≤ (r : Int32).toInt → (i_token : Int32).toInt = 1 ∧ Mt6 (kw6 kf (r : Int32).toInt.toNat) (pad lf (i_letterMany : Int32).toInt))))) args s 0 0 (fun _ => False)) (F0 m 2 ls []) := by
    intro n_1843
    induction n_1843 with
    | zero =>
      intro x_1842 ls h_x_1842 hr1843_0 hm_1843 hl
      exfalso; omega
    | succ n_1843 ih_1843 =>
      intro x_1842 ls h_x_1842 hr1843_0 hm_1843 hl
      refine lv_iload_n hx hb dX12_known_2 rfl (lv_at hl 0 rfl) ?_
      refine lv_iconst (v := 5) hx hb dX12_known_3 (by decide) ?_
      refine lv_icmp_ge (tgt := 88) hx hb dX12_known_4 (by decide) (fun c_1844 => ?_) (fun c_1844 => ?_)
      · skip
        have kk_5 := tk_5
        have c_1844_i := Int32.le_iff_toInt_le.mp c_1844
        have h_1845 : 5 ≤ (x_1842 : Int32).toInt ∧ (x_1842 : Int32).toInt ≤ 5 := nr_le_r (⟨by decide, by decide⟩ : 5 ≤ (5 : Int32).toInt ∧ (5 : Int32).toInt ≤ 5) h_x_1842 c_1844_i (by decide) (by decide)
        refine lv_iconst (v := (-1)) hx hb dX12_known_88 (by decide) ?_
        exact W.iret (v := (-1)) hx hb hr (fun t ht hW => ⟨(-1), rfl, ⟨(⟨by decide, by decide⟩ : (-1) ≤ ((-1) : Int32).toInt ∧ ((-1) : Int32).toInt ≤ 4), (fun _ h9 k h8 => hr1843_0 k (by have z_5 := tk_5; (first | (clear h_i_undoMany h_i_length h_i_size h_i_p h_i_at h_i_token h_i_number h_i_letterMany h_i_faultAt h_i_isKnown h_i_toldMany h_x_1842 c_1844_i h_1845; omega) | omega)) h9), (fun h9 => absurd h9 (by decide))⟩, ht⟩) (fun _ h => nomatch h) dX12_known_89
      · skip
        have kk_5 := tk_5
        have c_1844_i := Int32.lt_iff_toInt_lt.mp (Int32.not_le.mp c_1844)
        have h_1846 : 0 ≤ (x_1842 : Int32).toInt ∧ (x_1842 : Int32).toInt ≤ 4 := nr_lt_l h_x_1842 (⟨by decide, by decide⟩ : 5 ≤ (5 : Int32).toInt ∧ (5 : Int32).toInt ≤ 5) c_1844_i (by decide) (by decide)
        refine lv_aload_n hx hb dX12_known_7 rfl (lv_at hl 1 rfl) ?_
        refine va_get (D := D) (ci := 12) (v := .int i_token) (C := RX12) (T := TX12) (N := 35) hx hb hts inlX12 hown hK hP 0 rfl rfl 13 (by decide) (hts (Cond.fieldLink RX12 116 "ChanceRingsModel" "token" "I") qw_33) (fun _ h9 => h9) rfl dX12_known_8 ?_
        refine lv_iconst (v := 1) hx hb dX12_known_11 (by decide) ?_
        refine lv_icmp_ne (tgt := 19) hx hb dX12_known_12 (by decide) (fun c_1847 => ?_) (fun c_1847 => ?_)
        · skip
          have kk_1 := tk_1
          have c_1847_i : ¬ (i_token : Int32).toInt = (1 : Int32).toInt := (fun q => c_1847 (Int32.toInt_inj.mp q))
          refine lv_iconst (v := 0) hx hb dX12_known_19 (by decide) ?_
          refine lv_istore_n (lv' := [(2, .int 0), (1, .int x_1842), (0, .ref mm)]) hx hb dX12_known_20 rfl hl (by decide) rfl (fun ls hl => ?_)
          refine lv_iconst (v := 0) hx hb dX12_known_21 (by decide) ?_
          refine lv_istore_n (lv' := [(3, .int 0), (2, .int 0), (1, .int x_1842), (0, .ref mm)]) hx hb dX12_known_22 rfl hl (by decide) rfl (fun ls hl => ?_)
          have lp_1879 : ∀ (n_1879 : Nat) (x_1877 : Int32) (x_1878 : Int32) (ls : Array Slot), (0 ≤ (x_1877 : Int32).toInt ∧ (x_1877 : Int32).toInt ≤ 1) → (0 ≤ (x_1878 : Int32).toInt ∧ (x_1878 : Int32).toInt ≤ 6) → ((x_1877.toInt = 1 → (i_token : Int32).toInt = 1 ∧ ∀ q : Nat, q < x_1878.toInt.toNat → kw6 kf x_1842.toInt.toNat q = pad lf (i_letterMany : Int32).toInt q) ∧ (x_1877.toInt = 0 → (i_token : Int32).toInt = 1 → ¬ Mt6 (kw6 kf x_1842.toInt.toNat) (pad lf (i_letterMany : Int32).toInt))) → (6 - x_1878.toInt < (n_1879 : Int)) → lv_has ls 4 [(3, .int x_1878), (2, .int x_1877), (1, .int x_1842), (0, .ref mm)] → W p l e (headSpec (.code yX12_known cX12_known 4 (some .int) :: wsL_law) ({ frames := 0, cells := 0, slots := 0, locals := 0 })).room s m args below meth c s.heap [] 0 0 (MQ below (vp_Si (fun r => ((-1) ≤ (r : Int32).toInt ∧ (r : Int32).toInt ≤ 4) ∧ (Hide ((r : Int32).toInt = -1 → (i_token : Int32).toInt = 1 → ∀ k : Nat, k < 5 → ¬ Mt6 (kw6 kf k) (pad lf (i_letterMany : Int32).toInt))) ∧ (Hide (0 ≤ (r : Int32).toInt → (i_token : Int32).toInt = 1 ∧ Mt6 (kw6 kf (r : Int32).toInt.toNat) (pad lf (i_letterMany : Int32).toInt))))) args s 0 0 (fun _ => False)) (F0 m 23 ls []) := by
            intro n_1879
            induction n_1879 with
            | zero =>
              intro x_1877 x_1878 ls h_x_1877 h_x_1878 hr1879_0 hm_1879 hl
              exfalso; omega
            | succ n_1879 ih_1879 =>
              intro x_1877 x_1878 ls h_x_1877 h_x_1878 hr1879_0 hm_1879 hl
              refine lv_iload_n hx hb dX12_known_23 rfl (lv_at hl 0 rfl) ?_
              refine lv_bipush (v := 6) hx hb dX12_known_24 (by decide) ?_
              refine lv_icmp_ge (tgt := 76) hx hb dX12_known_26 (by decide) (fun c_1880 => ?_) (fun c_1880 => ?_)
              · skip
                have kk_6 := tk_6
                have c_1880_i := Int32.le_iff_toInt_le.mp c_1880
                have h_1881 : 6 ≤ (x_1878 : Int32).toInt ∧ (x_1878 : Int32).toInt ≤ 6 := nr_le_r (⟨by decide, by decide⟩ : 6 ≤ (6 : Int32).toInt ∧ (6 : Int32).toInt ≤ 6) h_x_1878 c_1880_i (by decide) (by decide)
                refine lv_iload_n hx hb dX12_known_76 rfl (lv_at hl 1 rfl) ?_
                refine lv_if_eq (tgt := 82) hx hb dX12_known_77 (by decide) (fun c_1883 => ?_) (fun c_1883 => ?_)
                · skip
                  have kk_0 := tk_0
                  have c_1883_i : (x_1877 : Int32).toInt = (0 : Int32).toInt := congrArg Int32.toInt c_1883
                  have h_1884 : 0 ≤ (x_1877 : Int32).toInt ∧ (x_1877 : Int32).toInt ≤ 0 := nr_eq_l h_x_1877 (⟨by decide, by decide⟩ : 0 ≤ (0 : Int32).toInt ∧ (0 : Int32).toInt ≤ 0) c_1883_i (by decide) (by decide)
                  obtain ⟨v_1886, v_1886_e⟩ : ∃ y : Int32, y = x_1842 + Int32.ofInt 1 := ⟨_, rfl⟩
                  have h_v_1886 : 1 ≤ (v_1886 : Int32).toInt ∧ (v_1886 : Int32).toInt ≤ 5 := by rw [v_1886_e]; exact tr_add h_1846 (⟨by decide, by decide⟩ : 1 ≤ (Int32.ofInt 1 : Int32).toInt ∧ (Int32.ofInt 1 : Int32).toInt ≤ 1) (by decide) (by decide) (by decide) (by decide)
                  have q_v_1886 : v_1886.toInt = x_1842.toInt + 1 := by rw [v_1886_e]; exact tr_addE h_1846 (⟨by decide, by decide⟩ : 1 ≤ (Int32.ofInt 1 : Int32).toInt ∧ (Int32.ofInt 1 : Int32).toInt ≤ 1) (by decide) (by decide)
                  refine lv_iinc (v := v_1886) (lv' := [(1, .int v_1886), (3, .int x_1878), (2, .int x_1877), (0, .ref mm)]) hx hb dX12_known_82 hl (k := 2) rfl v_1886_e.symm (by decide) rfl (fun ls hl => ?_)
                  refine lv_goto (tgt := 2) hx hb dX12_known_85 (by decide) ?_
                  exact ih_1843 v_1886 ls (tr_w h_v_1886 (by decide) (by decide)) (all_nx hr1843_0 (hr1879_0.2 (by have z_0 := tk_0; (first | (clear h_i_undoMany h_i_length h_i_size h_i_p h_i_at h_i_token h_i_number h_i_letterMany h_i_faultAt h_i_isKnown h_i_toldMany c_1847_i h_x_1877 h_x_1878 c_1880_i h_1881 c_1883_i h_1884; omega) | omega))) (by (first | (clear h_i_undoMany h_i_length h_i_size h_i_p h_i_at h_i_token h_i_number h_i_letterMany h_i_faultAt h_i_isKnown h_i_toldMany c_1847_i h_x_1877 h_x_1878 c_1880_i h_1881 c_1883_i h_1884; omega) | omega))) (by (first | (clear h_i_undoMany h_i_length h_i_size h_i_p h_i_at h_i_token h_i_number h_i_letterMany h_i_faultAt h_i_isKnown h_i_toldMany c_1847_i h_x_1877 h_x_1878 c_1880_i h_1881 c_1883_i h_1884; omega) | omega)) (lv_sub hl [0, 3] rfl)
                · skip
                  have kk_0 := tk_0
                  have c_1883_i : ¬ (x_1877 : Int32).toInt = (0 : Int32).toInt := (fun q => c_1883 (Int32.toInt_inj.mp q))
                  have h_1885 : 1 ≤ (x_1877 : Int32).toInt ∧ (x_1877 : Int32).toInt ≤ 1 := nr_ne_l h_x_1877 (⟨by decide, by decide⟩ : 0 ≤ (0 : Int32).toInt ∧ (0 : Int32).toInt ≤ 0) c_1883_i (by decide) (by decide)
                  refine lv_iload_n hx hb dX12_known_80 rfl (lv_at hl 2 rfl) ?_
                  exact W.iret (v := x_1842) hx hb hr (fun t ht hW => ⟨x_1842, rfl, ⟨(tr_w h_1846 (by decide) (by decide)), (fun h9 => absurd h9 (by (first | (clear h_i_undoMany h_i_length h_i_size h_i_p h_i_at h_i_token h_i_number h_i_letterMany h_i_faultAt h_i_isKnown h_i_toldMany c_1847_i h_x_1877 h_x_1878 c_1880_i h_1881 c_1883_i h_1885; omega) | omega))), (fun _ => ⟨(hr1879_0.1 (by have z_0 := tk_0; (first | (clear h_i_undoMany h_i_length h_i_size h_i_p h_i_at h_i_token h_i_number h_i_letterMany h_i_faultAt h_i_isKnown h_i_toldMany c_1847_i h_x_1877 h_x_1878 c_1880_i h_1881 c_1883_i h_1885; omega) | omega))).1, fun q h9 => (hr1879_0.1 (by have z_0 := tk_0; (first | (clear h_i_undoMany h_i_length h_i_size h_i_p h_i_at h_i_token h_i_number h_i_letterMany h_i_faultAt h_i_isKnown h_i_toldMany c_1847_i h_x_1877 h_x_1878 c_1880_i h_1881 c_1883_i h_1885; omega) | omega))).2 q (by have z_6 := tk_6; (first | (clear h_i_undoMany h_i_length h_i_size h_i_p h_i_at h_i_token h_i_number h_i_letterMany h_i_faultAt h_i_isKnown h_i_toldMany c_1847_i h_x_1877 h_x_1878 c_1880_i h_1881 c_1883_i h_1885; omega) | omega))⟩)⟩, ht⟩) (fun _ h => nomatch h) dX12_known_81
              · skip
                have kk_6 := tk_6
                have c_1880_i := Int32.lt_iff_toInt_lt.mp (Int32.not_le.mp c_1880)
                have h_1882 : 0 ≤ (x_1878 : Int32).toInt ∧ (x_1878 : Int32).toInt ≤ 5 := nr_lt_l h_x_1878 (⟨by decide, by decide⟩ : 6 ≤ (6 : Int32).toInt ∧ (6 : Int32).toInt ≤ 6) c_1880_i (by decide) (by decide)
                refine lv_iload_n hx hb dX12_known_29 rfl (lv_at hl 1 rfl) ?_
                refine lv_if_eq (tgt := 76) hx hb dX12_known_30 (by decide) (fun c_1887 => ?_) (fun c_1887 => ?_)
                · skip
                  have kk_0 := tk_0
                  have c_1887_i : (x_1877 : Int32).toInt = (0 : Int32).toInt := congrArg Int32.toInt c_1887
                  have h_1888 : 0 ≤ (x_1877 : Int32).toInt ∧ (x_1877 : Int32).toInt ≤ 0 := nr_eq_l h_x_1877 (⟨by decide, by decide⟩ : 0 ≤ (0 : Int32).toInt ∧ (0 : Int32).toInt ≤ 0) c_1887_i (by decide) (by decide)
                  refine lv_iload_n hx hb dX12_known_76 rfl (lv_at hl 1 rfl) ?_
                  refine lv_if_eq (tgt := 82) hx hb dX12_known_77 (by decide) (fun c_1890 => ?_) (fun h9 => (nr_x_ne h_1888 (⟨by decide, by decide⟩ : 0 ≤ (0 : Int32).toInt ∧ (0 : Int32).toInt ≤ 0) (fun q => h9 (Int32.toInt_inj.mp q)) (by decide)).elim)
                  have c_1890_i : (x_1877 : Int32).toInt = (0 : Int32).toInt := congrArg Int32.toInt c_1890
                  obtain ⟨v_1891, v_1891_e⟩ : ∃ y : Int32, y = x_1842 + Int32.ofInt 1 := ⟨_, rfl⟩
                  have h_v_1891 : 1 ≤ (v_1891 : Int32).toInt ∧ (v_1891 : Int32).toInt ≤ 5 := by rw [v_1891_e]; exact tr_add h_1846 (⟨by decide, by decide⟩ : 1 ≤ (Int32.ofInt 1 : Int32).toInt ∧ (Int32.ofInt 1 : Int32).toInt ≤ 1) (by decide) (by decide) (by decide) (by decide)
                  have q_v_1891 : v_1891.toInt = x_1842.toInt + 1 := by rw [v_1891_e]; exact tr_addE h_1846 (⟨by decide, by decide⟩ : 1 ≤ (Int32.ofInt 1 : Int32).toInt ∧ (Int32.ofInt 1 : Int32).toInt ≤ 1) (by decide) (by decide)
                  refine lv_iinc (v := v_1891) (lv' := [(1, .int v_1891), (3, .int x_1878), (2, .int x_1877), (0, .ref mm)]) hx hb dX12_known_82 hl (k := 2) rfl v_1891_e.symm (by decide) rfl (fun ls hl => ?_)
                  refine lv_goto (tgt := 2) hx hb dX12_known_85 (by decide) ?_
                  exact ih_1843 v_1891 ls (tr_w h_v_1891 (by decide) (by decide)) (all_nx hr1843_0 (hr1879_0.2 (by have z_0 := tk_0; (first | (clear h_i_undoMany h_i_length h_i_size h_i_p h_i_at h_i_token h_i_number h_i_letterMany h_i_faultAt h_i_isKnown h_i_toldMany c_1847_i h_x_1877 h_x_1878 c_1880_i h_1882 c_1887_i h_1888 c_1890_i; omega) | omega))) (by (first | (clear h_i_undoMany h_i_length h_i_size h_i_p h_i_at h_i_token h_i_number h_i_letterMany h_i_faultAt h_i_isKnown h_i_toldMany c_1847_i h_x_1877 h_x_1878 c_1880_i h_1882 c_1887_i h_1888 c_1890_i; omega) | omega))) (by (first | (clear h_i_undoMany h_i_length h_i_size h_i_p h_i_at h_i_token h_i_number h_i_letterMany h_i_faultAt h_i_isKnown h_i_toldMany c_1847_i h_x_1877 h_x_1878 c_1880_i h_1882 c_1887_i h_1888 c_1890_i; omega) | omega)) (lv_sub hl [0, 3] rfl)
                · skip
                  have kk_0 := tk_0
                  have c_1887_i : ¬ (x_1877 : Int32).toInt = (0 : Int32).toInt := (fun q => c_1887 (Int32.toInt_inj.mp q))
                  have h_1889 : 1 ≤ (x_1877 : Int32).toInt ∧ (x_1877 : Int32).toInt ≤ 1 := nr_ne_l h_x_1877 (⟨by decide, by decide⟩ : 0 ≤ (0 : Int32).toInt ∧ (0 : Int32).toInt ≤ 0) c_1887_i (by decide) (by decide)
                  refine va_gets hx hb hZ.1 va_S.rf hown (hts (Cond.fieldLink RX12 132 "ChanceRingsModel" "KNOWN" "[B") qw_34) (fun _ h9 => h9) dX12_known_33 ?_
                  refine lv_bipush (v := 6) hx hb dX12_known_36 (by decide) ?_
                  refine lv_iload_n hx hb dX12_known_38 rfl (lv_at hl 2 rfl) ?_
                  refine lv_imul hx hb dX12_known_39 ?_
                  refine lv_topi (fun v_1892 v_1892_e => ?_)
                  have h_v_1892 : 0 ≤ (v_1892 : Int32).toInt ∧ (v_1892 : Int32).toInt ≤ 24 := by rw [v_1892_e]; exact tr_mul (⟨by decide, by decide⟩ : 6 ≤ (6 : Int32).toInt ∧ (6 : Int32).toInt ≤ 6) h_1846 (by decide) (by decide) (by decide) (by decide)
                  have q_v_1892 : v_1892.toInt = 6 * x_1842.toInt := by rw [v_1892_e]; exact (tr_mulX (⟨by decide, by decide⟩ : 6 ≤ (6 : Int32).toInt ∧ (6 : Int32).toInt ≤ 6) h_1846 (by decide) (by decide)).trans (by rw [tk_6])
                  refine lv_iload_n hx hb dX12_known_40 rfl (lv_at hl 0 rfl) ?_
                  refine lv_iadd hx hb dX12_known_41 ?_
                  refine lv_topi (fun v_1893 v_1893_e => ?_)
                  have h_v_1893 : 0 ≤ (v_1893 : Int32).toInt ∧ (v_1893 : Int32).toInt ≤ 29 := by rw [v_1893_e]; exact tr_add h_v_1892 h_1882 (by decide) (by decide) (by decide) (by decide)
                  have q_v_1893 : v_1893.toInt = v_1892.toInt + x_1878.toInt := by rw [v_1893_e]; exact tr_addX h_v_1892 h_1882 (by decide) (by decide)
                  refine va_tb hx hb hZ.2 va_S.rf (tr_in h_v_1893 (by decide) (by decide)) rfl dX12_known_42 ?_
                  refine lv_topi (fun v_1894 v_1894_e => ?_)
                  have ka_9 : kw6 kf x_1842.toInt.toNat x_1878.toInt.toNat = v_1894.toInt := ((congrArg Int32.toInt v_1894_e).trans (congrArg (fun z9 => (kf z9).toInt) (by show Int.toNat _ = _; (first | (clear h_i_undoMany h_i_length h_i_size h_i_p h_i_at h_i_token h_i_number h_i_letterMany h_i_faultAt h_i_isKnown h_i_toldMany c_1847_i h_x_1877 c_1887_i h_1889; omega) | omega)))).symm
                  refine lv_iload_n hx hb dX12_known_43 rfl (lv_at hl 0 rfl) ?_
                  refine lv_aload_n hx hb dX12_known_44 rfl (lv_at hl 3 rfl) ?_
                  refine va_get (D := D) (ci := 12) (v := .int i_letterMany) (C := RX12) (T := TX12) (N := 35) hx hb hts inlX12 hown hK hP 0 rfl rfl 15 (by decide) (hts (Cond.fieldLink RX12 129 "ChanceRingsModel" "letterMany" "I") qw_32) (fun _ h9 => h9) rfl dX12_known_45 ?_
                  refine lv_icmp_ge (tgt := 60) hx hb dX12_known_48 (by decide) (fun c_1895 => ?_) (fun c_1895 => ?_)
                  · skip
                    have c_1895_i := Int32.le_iff_toInt_le.mp c_1895
                    have h_1896 : (-440) ≤ (i_letterMany : Int32).toInt ∧ (i_letterMany : Int32).toInt ≤ 5 := nr_le_l h_i_letterMany h_1882 c_1895_i (by decide) (by decide)
                    refine lv_iconst (v := 0) hx hb dX12_known_60 (by decide) ?_
                    have kb_9 : pad lf (i_letterMany : Int32).toInt x_1878.toInt.toNat = 0 := if_neg (by (first | (clear h_i_undoMany h_i_length h_i_size h_i_p h_i_at h_i_token h_i_number h_i_faultAt h_i_isKnown h_i_toldMany c_1847_i h_x_1877 c_1887_i h_1889; omega) | omega))
                    refine lv_icmp_ne (tgt := 68) hx hb dX12_known_61 (by decide) (fun c_1898 => ?_) (fun c_1898 => ?_)
                    · skip
                      have c_1898_i : ¬ (v_1894 : Int32).toInt = (0 : Int32).toInt := (fun q => c_1898 (Int32.toInt_inj.mp q))
                      refine lv_iconst (v := 0) hx hb dX12_known_68 (by decide) ?_
                      refine lv_istore_n (lv' := [(2, .int 0), (3, .int x_1878), (1, .int x_1842), (0, .ref mm)]) hx hb dX12_known_69 rfl hl (by decide) rfl (fun ls hl => ?_)
                      obtain ⟨v_1900, v_1900_e⟩ : ∃ y : Int32, y = x_1878 + Int32.ofInt 1 := ⟨_, rfl⟩
                      have h_v_1900 : 1 ≤ (v_1900 : Int32).toInt ∧ (v_1900 : Int32).toInt ≤ 6 := by rw [v_1900_e]; exact tr_add h_1882 (⟨by decide, by decide⟩ : 1 ≤ (Int32.ofInt 1 : Int32).toInt ∧ (Int32.ofInt 1 : Int32).toInt ≤ 1) (by decide) (by decide) (by decide) (by decide)
                      have q_v_1900 : v_1900.toInt = x_1878.toInt + 1 := by rw [v_1900_e]; exact tr_addE h_1882 (⟨by decide, by decide⟩ : 1 ≤ (Int32.ofInt 1 : Int32).toInt ∧ (Int32.ofInt 1 : Int32).toInt ≤ 1) (by decide) (by decide)
                      refine lv_iinc (v := v_1900) (lv' := [(3, .int v_1900), (2, .int 0), (1, .int x_1842), (0, .ref mm)]) hx hb dX12_known_70 hl (k := 1) rfl v_1900_e.symm (by decide) rfl (fun ls hl => ?_)
                      refine lv_goto (tgt := 23) hx hb dX12_known_73 (by decide) ?_
                      exact ih_1879 0 v_1900 ls (⟨by decide, by decide⟩ : 0 ≤ (0 : Int32).toInt ∧ (0 : Int32).toInt ≤ 1) (tr_w h_v_1900 (by decide) (by decide)) ⟨fun h9 => absurd h9 (by decide), fun _ _ m9 => by have q0 := m9 x_1878.toInt.toNat (by (first | (clear h_i_undoMany h_i_length h_i_size h_i_p h_i_at h_i_token h_i_number h_i_faultAt h_i_isKnown h_i_toldMany c_1847_i h_x_1877 c_1887_i h_1889; omega) | omega)); have q1 := ka_9; have q2 := kb_9; have z_0 := tk_0; (first | (clear h_i_undoMany h_i_length h_i_size h_i_p h_i_at h_i_token h_i_number h_i_faultAt h_i_isKnown h_i_toldMany c_1847_i h_x_1877 c_1887_i h_1889; omega) | omega)⟩ (by (first | (clear h_i_undoMany h_i_length h_i_size h_i_p h_i_at h_i_token h_i_number h_i_faultAt h_i_isKnown h_i_toldMany c_1847_i h_x_1877 c_1887_i h_1889; omega) | omega)) (lv_sub hl [0, 1, 2, 3] rfl)
                    · skip
                      have c_1898_i : (v_1894 : Int32).toInt = (0 : Int32).toInt := congrArg Int32.toInt c_1898
                      have h_1899 : 0 ≤ (v_1894 : Int32).toInt ∧ (v_1894 : Int32).toInt ≤ 0 := by rw [c_1898]; exact ⟨by decide, by decide⟩
                      refine lv_iconst (v := 1) hx hb dX12_known_64 (by decide) ?_
                      refine lv_goto (tgt := 69) hx hb dX12_known_65 (by decide) ?_
                      refine lv_istore_n (lv' := [(2, .int 1), (3, .int x_1878), (1, .int x_1842), (0, .ref mm)]) hx hb dX12_known_69 rfl hl (by decide) rfl (fun ls hl => ?_)
                      obtain ⟨v_1901, v_1901_e⟩ : ∃ y : Int32, y = x_1878 + Int32.ofInt 1 := ⟨_, rfl⟩
                      have h_v_1901 : 1 ≤ (v_1901 : Int32).toInt ∧ (v_1901 : Int32).toInt ≤ 6 := by rw [v_1901_e]; exact tr_add h_1882 (⟨by decide, by decide⟩ : 1 ≤ (Int32.ofInt 1 : Int32).toInt ∧ (Int32.ofInt 1 : Int32).toInt ≤ 1) (by decide) (by decide) (by decide) (by decide)
                      have q_v_1901 : v_1901.toInt = x_1878.toInt + 1 := by rw [v_1901_e]; exact tr_addE h_1882 (⟨by decide, by decide⟩ : 1 ≤ (Int32.ofInt 1 : Int32).toInt ∧ (Int32.ofInt 1 : Int32).toInt ≤ 1) (by decide) (by decide)
                      refine lv_iinc (v := v_1901) (lv' := [(3, .int v_1901), (2, .int 1), (1, .int x_1842), (0, .ref mm)]) hx hb dX12_known_70 hl (k := 1) rfl v_1901_e.symm (by decide) rfl (fun ls hl => ?_)
                      refine lv_goto (tgt := 23) hx hb dX12_known_73 (by decide) ?_
                      exact ih_1879 1 v_1901 ls (⟨by decide, by decide⟩ : 0 ≤ (1 : Int32).toInt ∧ (1 : Int32).toInt ≤ 1) (tr_w h_v_1901 (by decide) (by decide)) ⟨fun _ => ⟨(hr1879_0.1 (by (first | (clear h_i_undoMany h_i_length h_i_size h_i_p h_i_at h_i_token h_i_number h_i_faultAt h_i_isKnown h_i_toldMany c_1847_i h_x_1877 c_1887_i h_1889; omega) | omega))).1, all_nx (hr1879_0.1 (by (first | (clear h_i_undoMany h_i_length h_i_size h_i_p h_i_at h_i_token h_i_number h_i_faultAt h_i_isKnown h_i_toldMany c_1847_i h_x_1877 c_1887_i h_1889; omega) | omega))).2 (by have q1 := ka_9; have q2 := kb_9; have z_0 := tk_0; (first | (clear h_i_undoMany h_i_length h_i_size h_i_p h_i_at h_i_token h_i_number h_i_faultAt h_i_isKnown h_i_toldMany c_1847_i h_x_1877 c_1887_i h_1889; omega) | omega)) (by (first | (clear h_i_undoMany h_i_length h_i_size h_i_p h_i_at h_i_token h_i_number h_i_faultAt h_i_isKnown h_i_toldMany c_1847_i h_x_1877 c_1887_i h_1889; omega) | omega))⟩, fun h9 => absurd h9 (by decide)⟩ (by (first | (clear h_i_undoMany h_i_length h_i_size h_i_p h_i_at h_i_token h_i_number h_i_faultAt h_i_isKnown h_i_toldMany c_1847_i h_x_1877 c_1887_i h_1889; omega) | omega)) (lv_sub hl [0, 1, 2, 3] rfl)
                  · skip
                    have c_1895_i := Int32.lt_iff_toInt_lt.mp (Int32.not_le.mp c_1895)
                    have h_1897 : 1 ≤ (i_letterMany : Int32).toInt ∧ (i_letterMany : Int32).toInt ≤ 440 := nr_lt_r h_1882 h_i_letterMany c_1895_i (by decide) (by decide)
                    refine lv_aload_n hx hb dX12_known_51 rfl (lv_at hl 3 rfl) ?_
                    refine va_get (D := D) (ci := 12) (v := .ref m_letters) (C := RX12) (T := TX12) (N := 35) hx hb hts inlX12 hown hK hP 0 rfl rfl 18 (by decide) (hts (Cond.fieldLink RX12 37 "ChanceRingsModel" "letters" "[B") qw_28) (fun _ h9 => h9) rfl dX12_known_52 ?_
                    refine lv_iload_n hx hb dX12_known_55 rfl (lv_at hl 0 rfl) ?_
                    refine va_bald hx hb hK hP 1 2 rfl rfl (tr_in h_1882 (by decide) (by decide)) dX12_known_56 ?_
                    refine lv_topi (fun v_1902 v_1902_e => ?_)
                    have g_v_1902 : v_1902 = lf (x_1878.toInt.toNat) := v_1902_e.trans (congrArg lf rfl)
                    have gi_v_1902 := congrArg Int32.toInt g_v_1902
                    refine lv_goto (tgt := 61) hx hb dX12_known_57 (by decide) ?_
                    have kb_9 : pad lf (i_letterMany : Int32).toInt x_1878.toInt.toNat = v_1902.toInt := (if_pos (by (first | (clear h_i_undoMany h_i_length h_i_size h_i_p h_i_at h_i_token h_i_number h_i_faultAt h_i_isKnown h_i_toldMany c_1847_i h_x_1877 c_1887_i h_1889; omega) | omega))).trans gi_v_1902.symm
                    refine lv_icmp_ne (tgt := 68) hx hb dX12_known_61 (by decide) (fun c_1903 => ?_) (fun c_1903 => ?_)
                    · skip
                      have c_1903_i : ¬ (v_1894 : Int32).toInt = (v_1902 : Int32).toInt := (fun q => c_1903 (Int32.toInt_inj.mp q))
                      refine lv_iconst (v := 0) hx hb dX12_known_68 (by decide) ?_
                      refine lv_istore_n (lv' := [(2, .int 0), (3, .int x_1878), (1, .int x_1842), (0, .ref mm)]) hx hb dX12_known_69 rfl hl (by decide) rfl (fun ls hl => ?_)
                      obtain ⟨v_1904, v_1904_e⟩ : ∃ y : Int32, y = x_1878 + Int32.ofInt 1 := ⟨_, rfl⟩
                      have h_v_1904 : 1 ≤ (v_1904 : Int32).toInt ∧ (v_1904 : Int32).toInt ≤ 6 := by rw [v_1904_e]; exact tr_add h_1882 (⟨by decide, by decide⟩ : 1 ≤ (Int32.ofInt 1 : Int32).toInt ∧ (Int32.ofInt 1 : Int32).toInt ≤ 1) (by decide) (by decide) (by decide) (by decide)
                      have q_v_1904 : v_1904.toInt = x_1878.toInt + 1 := by rw [v_1904_e]; exact tr_addE h_1882 (⟨by decide, by decide⟩ : 1 ≤ (Int32.ofInt 1 : Int32).toInt ∧ (Int32.ofInt 1 : Int32).toInt ≤ 1) (by decide) (by decide)
                      refine lv_iinc (v := v_1904) (lv' := [(3, .int v_1904), (2, .int 0), (1, .int x_1842), (0, .ref mm)]) hx hb dX12_known_70 hl (k := 1) rfl v_1904_e.symm (by decide) rfl (fun ls hl => ?_)
                      refine lv_goto (tgt := 23) hx hb dX12_known_73 (by decide) ?_
                      exact ih_1879 0 v_1904 ls (⟨by decide, by decide⟩ : 0 ≤ (0 : Int32).toInt ∧ (0 : Int32).toInt ≤ 1) (tr_w h_v_1904 (by decide) (by decide)) ⟨fun h9 => absurd h9 (by decide), fun _ _ m9 => by have q0 := m9 x_1878.toInt.toNat (by (first | (clear h_i_undoMany h_i_length h_i_size h_i_p h_i_at h_i_token h_i_number h_i_faultAt h_i_isKnown h_i_toldMany c_1847_i h_x_1877 c_1887_i h_1889; omega) | omega)); have q1 := ka_9; have q2 := kb_9; have z_0 := tk_0; (first | (clear h_i_undoMany h_i_length h_i_size h_i_p h_i_at h_i_token h_i_number h_i_faultAt h_i_isKnown h_i_toldMany c_1847_i h_x_1877 c_1887_i h_1889; omega) | omega)⟩ (by (first | (clear h_i_undoMany h_i_length h_i_size h_i_p h_i_at h_i_token h_i_number h_i_faultAt h_i_isKnown h_i_toldMany c_1847_i h_x_1877 c_1887_i h_1889; omega) | omega)) (lv_sub hl [0, 1, 2, 3] rfl)
                    · skip
                      have c_1903_i : (v_1894 : Int32).toInt = (v_1902 : Int32).toInt := congrArg Int32.toInt c_1903
                      refine lv_iconst (v := 1) hx hb dX12_known_64 (by decide) ?_
                      refine lv_goto (tgt := 69) hx hb dX12_known_65 (by decide) ?_
                      refine lv_istore_n (lv' := [(2, .int 1), (3, .int x_1878), (1, .int x_1842), (0, .ref mm)]) hx hb dX12_known_69 rfl hl (by decide) rfl (fun ls hl => ?_)
                      obtain ⟨v_1905, v_1905_e⟩ : ∃ y : Int32, y = x_1878 + Int32.ofInt 1 := ⟨_, rfl⟩
                      have h_v_1905 : 1 ≤ (v_1905 : Int32).toInt ∧ (v_1905 : Int32).toInt ≤ 6 := by rw [v_1905_e]; exact tr_add h_1882 (⟨by decide, by decide⟩ : 1 ≤ (Int32.ofInt 1 : Int32).toInt ∧ (Int32.ofInt 1 : Int32).toInt ≤ 1) (by decide) (by decide) (by decide) (by decide)
                      have q_v_1905 : v_1905.toInt = x_1878.toInt + 1 := by rw [v_1905_e]; exact tr_addE h_1882 (⟨by decide, by decide⟩ : 1 ≤ (Int32.ofInt 1 : Int32).toInt ∧ (Int32.ofInt 1 : Int32).toInt ≤ 1) (by decide) (by decide)
                      refine lv_iinc (v := v_1905) (lv' := [(3, .int v_1905), (2, .int 1), (1, .int x_1842), (0, .ref mm)]) hx hb dX12_known_70 hl (k := 1) rfl v_1905_e.symm (by decide) rfl (fun ls hl => ?_)
                      refine lv_goto (tgt := 23) hx hb dX12_known_73 (by decide) ?_
                      exact ih_1879 1 v_1905 ls (⟨by decide, by decide⟩ : 0 ≤ (1 : Int32).toInt ∧ (1 : Int32).toInt ≤ 1) (tr_w h_v_1905 (by decide) (by decide)) ⟨fun _ => ⟨(hr1879_0.1 (by (first | (clear h_i_undoMany h_i_length h_i_size h_i_p h_i_at h_i_token h_i_number h_i_faultAt h_i_isKnown h_i_toldMany c_1847_i h_x_1877 c_1887_i h_1889; omega) | omega))).1, all_nx (hr1879_0.1 (by (first | (clear h_i_undoMany h_i_length h_i_size h_i_p h_i_at h_i_token h_i_number h_i_faultAt h_i_isKnown h_i_toldMany c_1847_i h_x_1877 c_1887_i h_1889; omega) | omega))).2 (by have q1 := ka_9; have q2 := kb_9; have z_0 := tk_0; (first | (clear h_i_undoMany h_i_length h_i_size h_i_p h_i_at h_i_token h_i_number h_i_faultAt h_i_isKnown h_i_toldMany c_1847_i h_x_1877 c_1887_i h_1889; omega) | omega)) (by (first | (clear h_i_undoMany h_i_length h_i_size h_i_p h_i_at h_i_token h_i_number h_i_faultAt h_i_isKnown h_i_toldMany c_1847_i h_x_1877 c_1887_i h_1889; omega) | omega))⟩, fun h9 => absurd h9 (by decide)⟩ (by (first | (clear h_i_undoMany h_i_length h_i_size h_i_p h_i_at h_i_token h_i_number h_i_faultAt h_i_isKnown h_i_toldMany c_1847_i h_x_1877 c_1887_i h_1889; omega) | omega)) (lv_sub hl [0, 1, 2, 3] rfl)
          exact lp_1879 7 0 0 ls (⟨by decide, by decide⟩ : 0 ≤ (0 : Int32).toInt ∧ (0 : Int32).toInt ≤ 1) (⟨by decide, by decide⟩ : 0 ≤ (0 : Int32).toInt ∧ (0 : Int32).toInt ≤ 6) ⟨fun h9 => absurd h9 (by decide), fun _ h8 => absurd h8 (by have z_1 := tk_1; (first | (clear h_i_undoMany h_i_length h_i_size h_i_p h_i_at h_i_token h_i_number h_i_letterMany h_i_faultAt h_i_isKnown h_i_toldMany h_x_1842 c_1844_i h_1846 c_1847_i; omega) | omega))⟩ (by decide) (lv_sub hl [0, 1, 2, 3] rfl)
        · skip
          have kk_1 := tk_1
          have c_1847_i : (i_token : Int32).toInt = (1 : Int32).toInt := congrArg Int32.toInt c_1847
          have h_1848 : 1 ≤ (i_token : Int32).toInt ∧ (i_token : Int32).toInt ≤ 1 := nr_eq_l h_i_token (⟨by decide, by decide⟩ : 1 ≤ (1 : Int32).toInt ∧ (1 : Int32).toInt ≤ 1) c_1847_i (by decide) (by decide)
          refine lv_iconst (v := 1) hx hb dX12_known_15 (by decide) ?_
          refine lv_goto (tgt := 20) hx hb dX12_known_16 (by decide) ?_
          refine lv_istore_n (lv' := [(2, .int 1), (1, .int x_1842), (0, .ref mm)]) hx hb dX12_known_20 rfl hl (by decide) rfl (fun ls hl => ?_)
          refine lv_iconst (v := 0) hx hb dX12_known_21 (by decide) ?_
          refine lv_istore_n (lv' := [(3, .int 0), (2, .int 1), (1, .int x_1842), (0, .ref mm)]) hx hb dX12_known_22 rfl hl (by decide) rfl (fun ls hl => ?_)
          have lp_1936 : ∀ (n_1936 : Nat) (x_1934 : Int32) (x_1935 : Int32) (ls : Array Slot), (0 ≤ (x_1934 : Int32).toInt ∧ (x_1934 : Int32).toInt ≤ 1) → (0 ≤ (x_1935 : Int32).toInt ∧ (x_1935 : Int32).toInt ≤ 6) → ((x_1934.toInt = 1 → (i_token : Int32).toInt = 1 ∧ ∀ q : Nat, q < x_1935.toInt.toNat → kw6 kf x_1842.toInt.toNat q = pad lf (i_letterMany : Int32).toInt q) ∧ (x_1934.toInt = 0 → (i_token : Int32).toInt = 1 → ¬ Mt6 (kw6 kf x_1842.toInt.toNat) (pad lf (i_letterMany : Int32).toInt))) → (6 - x_1935.toInt < (n_1936 : Int)) → lv_has ls 4 [(3, .int x_1935), (2, .int x_1934), (1, .int x_1842), (0, .ref mm)] → W p l e (headSpec (.code yX12_known cX12_known 4 (some .int) :: wsL_law) ({ frames := 0, cells := 0, slots := 0, locals := 0 })).room s m args below meth c s.heap [] 0 0 (MQ below (vp_Si (fun r => ((-1) ≤ (r : Int32).toInt ∧ (r : Int32).toInt ≤ 4) ∧ (Hide ((r : Int32).toInt = -1 → (i_token : Int32).toInt = 1 → ∀ k : Nat, k < 5 → ¬ Mt6 (kw6 kf k) (pad lf (i_letterMany : Int32).toInt))) ∧ (Hide (0 ≤ (r : Int32).toInt → (i_token : Int32).toInt = 1 ∧ Mt6 (kw6 kf (r : Int32).toInt.toNat) (pad lf (i_letterMany : Int32).toInt))))) args s 0 0 (fun _ => False)) (F0 m 23 ls []) := by
            intro n_1936
            induction n_1936 with
            | zero =>
              intro x_1934 x_1935 ls h_x_1934 h_x_1935 hr1936_0 hm_1936 hl
              exfalso; omega
            | succ n_1936 ih_1936 =>
              intro x_1934 x_1935 ls h_x_1934 h_x_1935 hr1936_0 hm_1936 hl
              refine lv_iload_n hx hb dX12_known_23 rfl (lv_at hl 0 rfl) ?_
              refine lv_bipush (v := 6) hx hb dX12_known_24 (by decide) ?_
              refine lv_icmp_ge (tgt := 76) hx hb dX12_known_26 (by decide) (fun c_1937 => ?_) (fun c_1937 => ?_)
              · skip
                have kk_6 := tk_6
                have c_1937_i := Int32.le_iff_toInt_le.mp c_1937
                have h_1938 : 6 ≤ (x_1935 : Int32).toInt ∧ (x_1935 : Int32).toInt ≤ 6 := nr_le_r (⟨by decide, by decide⟩ : 6 ≤ (6 : Int32).toInt ∧ (6 : Int32).toInt ≤ 6) h_x_1935 c_1937_i (by decide) (by decide)
                refine lv_iload_n hx hb dX12_known_76 rfl (lv_at hl 1 rfl) ?_
                refine lv_if_eq (tgt := 82) hx hb dX12_known_77 (by decide) (fun c_1940 => ?_) (fun c_1940 => ?_)
                · skip
                  have kk_0 := tk_0
                  have c_1940_i : (x_1934 : Int32).toInt = (0 : Int32).toInt := congrArg Int32.toInt c_1940
                  have h_1941 : 0 ≤ (x_1934 : Int32).toInt ∧ (x_1934 : Int32).toInt ≤ 0 := nr_eq_l h_x_1934 (⟨by decide, by decide⟩ : 0 ≤ (0 : Int32).toInt ∧ (0 : Int32).toInt ≤ 0) c_1940_i (by decide) (by decide)
                  obtain ⟨v_1943, v_1943_e⟩ : ∃ y : Int32, y = x_1842 + Int32.ofInt 1 := ⟨_, rfl⟩
                  have h_v_1943 : 1 ≤ (v_1943 : Int32).toInt ∧ (v_1943 : Int32).toInt ≤ 5 := by rw [v_1943_e]; exact tr_add h_1846 (⟨by decide, by decide⟩ : 1 ≤ (Int32.ofInt 1 : Int32).toInt ∧ (Int32.ofInt 1 : Int32).toInt ≤ 1) (by decide) (by decide) (by decide) (by decide)
                  have q_v_1943 : v_1943.toInt = x_1842.toInt + 1 := by rw [v_1943_e]; exact tr_addE h_1846 (⟨by decide, by decide⟩ : 1 ≤ (Int32.ofInt 1 : Int32).toInt ∧ (Int32.ofInt 1 : Int32).toInt ≤ 1) (by decide) (by decide)
                  refine lv_iinc (v := v_1943) (lv' := [(1, .int v_1943), (3, .int x_1935), (2, .int x_1934), (0, .ref mm)]) hx hb dX12_known_82 hl (k := 2) rfl v_1943_e.symm (by decide) rfl (fun ls hl => ?_)
                  refine lv_goto (tgt := 2) hx hb dX12_known_85 (by decide) ?_
                  exact ih_1843 v_1943 ls (tr_w h_v_1943 (by decide) (by decide)) (all_nx hr1843_0 (hr1936_0.2 (by have z_0 := tk_0; (first | (clear h_i_undoMany h_i_length h_i_size h_i_p h_i_at h_i_token h_i_number h_i_letterMany h_i_faultAt h_i_isKnown h_i_toldMany c_1847_i h_1848 h_x_1934 h_x_1935 c_1937_i h_1938 c_1940_i h_1941; omega) | omega))) (by (first | (clear h_i_undoMany h_i_length h_i_size h_i_p h_i_at h_i_token h_i_number h_i_letterMany h_i_faultAt h_i_isKnown h_i_toldMany c_1847_i h_1848 h_x_1934 h_x_1935 c_1937_i h_1938 c_1940_i h_1941; omega) | omega))) (by (first | (clear h_i_undoMany h_i_length h_i_size h_i_p h_i_at h_i_token h_i_number h_i_letterMany h_i_faultAt h_i_isKnown h_i_toldMany c_1847_i h_1848 h_x_1934 h_x_1935 c_1937_i h_1938 c_1940_i h_1941; omega) | omega)) (lv_sub hl [0, 3] rfl)
                · skip
                  have kk_0 := tk_0
                  have c_1940_i : ¬ (x_1934 : Int32).toInt = (0 : Int32).toInt := (fun q => c_1940 (Int32.toInt_inj.mp q))
                  have h_1942 : 1 ≤ (x_1934 : Int32).toInt ∧ (x_1934 : Int32).toInt ≤ 1 := nr_ne_l h_x_1934 (⟨by decide, by decide⟩ : 0 ≤ (0 : Int32).toInt ∧ (0 : Int32).toInt ≤ 0) c_1940_i (by decide) (by decide)
                  refine lv_iload_n hx hb dX12_known_80 rfl (lv_at hl 2 rfl) ?_
                  exact W.iret (v := x_1842) hx hb hr (fun t ht hW => ⟨x_1842, rfl, ⟨(tr_w h_1846 (by decide) (by decide)), (fun h9 => absurd h9 (by (first | (clear h_i_undoMany h_i_length h_i_size h_i_p h_i_at h_i_token h_i_number h_i_letterMany h_i_faultAt h_i_isKnown h_i_toldMany c_1847_i h_1848 h_x_1934 h_x_1935 c_1937_i h_1938 c_1940_i h_1942; omega) | omega))), (fun _ => ⟨(hr1936_0.1 (by have z_0 := tk_0; (first | (clear h_i_undoMany h_i_length h_i_size h_i_p h_i_at h_i_token h_i_number h_i_letterMany h_i_faultAt h_i_isKnown h_i_toldMany c_1847_i h_1848 h_x_1934 h_x_1935 c_1937_i h_1938 c_1940_i h_1942; omega) | omega))).1, fun q h9 => (hr1936_0.1 (by have z_0 := tk_0; (first | (clear h_i_undoMany h_i_length h_i_size h_i_p h_i_at h_i_token h_i_number h_i_letterMany h_i_faultAt h_i_isKnown h_i_toldMany c_1847_i h_1848 h_x_1934 h_x_1935 c_1937_i h_1938 c_1940_i h_1942; omega) | omega))).2 q (by have z_6 := tk_6; (first | (clear h_i_undoMany h_i_length h_i_size h_i_p h_i_at h_i_token h_i_number h_i_letterMany h_i_faultAt h_i_isKnown h_i_toldMany c_1847_i h_1848 h_x_1934 h_x_1935 c_1937_i h_1938 c_1940_i h_1942; omega) | omega))⟩)⟩, ht⟩) (fun _ h => nomatch h) dX12_known_81
              · skip
                have kk_6 := tk_6
                have c_1937_i := Int32.lt_iff_toInt_lt.mp (Int32.not_le.mp c_1937)
                have h_1939 : 0 ≤ (x_1935 : Int32).toInt ∧ (x_1935 : Int32).toInt ≤ 5 := nr_lt_l h_x_1935 (⟨by decide, by decide⟩ : 6 ≤ (6 : Int32).toInt ∧ (6 : Int32).toInt ≤ 6) c_1937_i (by decide) (by decide)
                refine lv_iload_n hx hb dX12_known_29 rfl (lv_at hl 1 rfl) ?_
                refine lv_if_eq (tgt := 76) hx hb dX12_known_30 (by decide) (fun c_1944 => ?_) (fun c_1944 => ?_)
                · skip
                  have kk_0 := tk_0
                  have c_1944_i : (x_1934 : Int32).toInt = (0 : Int32).toInt := congrArg Int32.toInt c_1944
                  have h_1945 : 0 ≤ (x_1934 : Int32).toInt ∧ (x_1934 : Int32).toInt ≤ 0 := nr_eq_l h_x_1934 (⟨by decide, by decide⟩ : 0 ≤ (0 : Int32).toInt ∧ (0 : Int32).toInt ≤ 0) c_1944_i (by decide) (by decide)
                  refine lv_iload_n hx hb dX12_known_76 rfl (lv_at hl 1 rfl) ?_
                  refine lv_if_eq (tgt := 82) hx hb dX12_known_77 (by decide) (fun c_1947 => ?_) (fun h9 => (nr_x_ne h_1945 (⟨by decide, by decide⟩ : 0 ≤ (0 : Int32).toInt ∧ (0 : Int32).toInt ≤ 0) (fun q => h9 (Int32.toInt_inj.mp q)) (by decide)).elim)
                  have c_1947_i : (x_1934 : Int32).toInt = (0 : Int32).toInt := congrArg Int32.toInt c_1947
                  obtain ⟨v_1948, v_1948_e⟩ : ∃ y : Int32, y = x_1842 + Int32.ofInt 1 := ⟨_, rfl⟩
                  have h_v_1948 : 1 ≤ (v_1948 : Int32).toInt ∧ (v_1948 : Int32).toInt ≤ 5 := by rw [v_1948_e]; exact tr_add h_1846 (⟨by decide, by decide⟩ : 1 ≤ (Int32.ofInt 1 : Int32).toInt ∧ (Int32.ofInt 1 : Int32).toInt ≤ 1) (by decide) (by decide) (by decide) (by decide)
                  have q_v_1948 : v_1948.toInt = x_1842.toInt + 1 := by rw [v_1948_e]; exact tr_addE h_1846 (⟨by decide, by decide⟩ : 1 ≤ (Int32.ofInt 1 : Int32).toInt ∧ (Int32.ofInt 1 : Int32).toInt ≤ 1) (by decide) (by decide)
                  refine lv_iinc (v := v_1948) (lv' := [(1, .int v_1948), (3, .int x_1935), (2, .int x_1934), (0, .ref mm)]) hx hb dX12_known_82 hl (k := 2) rfl v_1948_e.symm (by decide) rfl (fun ls hl => ?_)
                  refine lv_goto (tgt := 2) hx hb dX12_known_85 (by decide) ?_
                  exact ih_1843 v_1948 ls (tr_w h_v_1948 (by decide) (by decide)) (all_nx hr1843_0 (hr1936_0.2 (by have z_0 := tk_0; (first | (clear h_i_undoMany h_i_length h_i_size h_i_p h_i_at h_i_token h_i_number h_i_letterMany h_i_faultAt h_i_isKnown h_i_toldMany c_1847_i h_1848 h_x_1934 h_x_1935 c_1937_i h_1939 c_1944_i h_1945 c_1947_i; omega) | omega))) (by (first | (clear h_i_undoMany h_i_length h_i_size h_i_p h_i_at h_i_token h_i_number h_i_letterMany h_i_faultAt h_i_isKnown h_i_toldMany c_1847_i h_1848 h_x_1934 h_x_1935 c_1937_i h_1939 c_1944_i h_1945 c_1947_i; omega) | omega))) (by (first | (clear h_i_undoMany h_i_length h_i_size h_i_p h_i_at h_i_token h_i_number h_i_letterMany h_i_faultAt h_i_isKnown h_i_toldMany c_1847_i h_1848 h_x_1934 h_x_1935 c_1937_i h_1939 c_1944_i h_1945 c_1947_i; omega) | omega)) (lv_sub hl [0, 3] rfl)
                · skip
                  have kk_0 := tk_0
                  have c_1944_i : ¬ (x_1934 : Int32).toInt = (0 : Int32).toInt := (fun q => c_1944 (Int32.toInt_inj.mp q))
                  have h_1946 : 1 ≤ (x_1934 : Int32).toInt ∧ (x_1934 : Int32).toInt ≤ 1 := nr_ne_l h_x_1934 (⟨by decide, by decide⟩ : 0 ≤ (0 : Int32).toInt ∧ (0 : Int32).toInt ≤ 0) c_1944_i (by decide) (by decide)
                  refine va_gets hx hb hZ.1 va_S.rf hown (hts (Cond.fieldLink RX12 132 "ChanceRingsModel" "KNOWN" "[B") qw_34) (fun _ h9 => h9) dX12_known_33 ?_
                  refine lv_bipush (v := 6) hx hb dX12_known_36 (by decide) ?_
                  refine lv_iload_n hx hb dX12_known_38 rfl (lv_at hl 2 rfl) ?_
                  refine lv_imul hx hb dX12_known_39 ?_
                  refine lv_topi (fun v_1949 v_1949_e => ?_)
                  have h_v_1949 : 0 ≤ (v_1949 : Int32).toInt ∧ (v_1949 : Int32).toInt ≤ 24 := by rw [v_1949_e]; exact tr_mul (⟨by decide, by decide⟩ : 6 ≤ (6 : Int32).toInt ∧ (6 : Int32).toInt ≤ 6) h_1846 (by decide) (by decide) (by decide) (by decide)
                  have q_v_1949 : v_1949.toInt = 6 * x_1842.toInt := by rw [v_1949_e]; exact (tr_mulX (⟨by decide, by decide⟩ : 6 ≤ (6 : Int32).toInt ∧ (6 : Int32).toInt ≤ 6) h_1846 (by decide) (by decide)).trans (by rw [tk_6])
                  refine lv_iload_n hx hb dX12_known_40 rfl (lv_at hl 0 rfl) ?_
                  refine lv_iadd hx hb dX12_known_41 ?_
                  refine lv_topi (fun v_1950 v_1950_e => ?_)
                  have h_v_1950 : 0 ≤ (v_1950 : Int32).toInt ∧ (v_1950 : Int32).toInt ≤ 29 := by rw [v_1950_e]; exact tr_add h_v_1949 h_1939 (by decide) (by decide) (by decide) (by decide)
                  have q_v_1950 : v_1950.toInt = v_1949.toInt + x_1935.toInt := by rw [v_1950_e]; exact tr_addX h_v_1949 h_1939 (by decide) (by decide)
                  refine va_tb hx hb hZ.2 va_S.rf (tr_in h_v_1950 (by decide) (by decide)) rfl dX12_known_42 ?_
                  refine lv_topi (fun v_1951 v_1951_e => ?_)
                  have ka_9 : kw6 kf x_1842.toInt.toNat x_1935.toInt.toNat = v_1951.toInt := ((congrArg Int32.toInt v_1951_e).trans (congrArg (fun z9 => (kf z9).toInt) (by show Int.toNat _ = _; (first | (clear h_i_undoMany h_i_length h_i_size h_i_p h_i_at h_i_token h_i_number h_i_letterMany h_i_faultAt h_i_isKnown h_i_toldMany c_1847_i h_1848 h_x_1934 c_1944_i h_1946; omega) | omega)))).symm
                  refine lv_iload_n hx hb dX12_known_43 rfl (lv_at hl 0 rfl) ?_
                  refine lv_aload_n hx hb dX12_known_44 rfl (lv_at hl 3 rfl) ?_
                  refine va_get (D := D) (ci := 12) (v := .int i_letterMany) (C := RX12) (T := TX12) (N := 35) hx hb hts inlX12 hown hK hP 0 rfl rfl 15 (by decide) (hts (Cond.fieldLink RX12 129 "ChanceRingsModel" "letterMany" "I") qw_32) (fun _ h9 => h9) rfl dX12_known_45 ?_
                  refine lv_icmp_ge (tgt := 60) hx hb dX12_known_48 (by decide) (fun c_1952 => ?_) (fun c_1952 => ?_)
                  · skip
                    have c_1952_i := Int32.le_iff_toInt_le.mp c_1952
                    have h_1953 : (-440) ≤ (i_letterMany : Int32).toInt ∧ (i_letterMany : Int32).toInt ≤ 5 := nr_le_l h_i_letterMany h_1939 c_1952_i (by decide) (by decide)
                    refine lv_iconst (v := 0) hx hb dX12_known_60 (by decide) ?_
                    have kb_9 : pad lf (i_letterMany : Int32).toInt x_1935.toInt.toNat = 0 := if_neg (by (first | (clear h_i_undoMany h_i_length h_i_size h_i_p h_i_at h_i_token h_i_number h_i_faultAt h_i_isKnown h_i_toldMany c_1847_i h_1848 h_x_1934 c_1944_i h_1946; omega) | omega))
                    refine lv_icmp_ne (tgt := 68) hx hb dX12_known_61 (by decide) (fun c_1955 => ?_) (fun c_1955 => ?_)
                    · skip
                      have c_1955_i : ¬ (v_1951 : Int32).toInt = (0 : Int32).toInt := (fun q => c_1955 (Int32.toInt_inj.mp q))
                      refine lv_iconst (v := 0) hx hb dX12_known_68 (by decide) ?_
                      refine lv_istore_n (lv' := [(2, .int 0), (3, .int x_1935), (1, .int x_1842), (0, .ref mm)]) hx hb dX12_known_69 rfl hl (by decide) rfl (fun ls hl => ?_)
                      obtain ⟨v_1957, v_1957_e⟩ : ∃ y : Int32, y = x_1935 + Int32.ofInt 1 := ⟨_, rfl⟩
                      have h_v_1957 : 1 ≤ (v_1957 : Int32).toInt ∧ (v_1957 : Int32).toInt ≤ 6 := by rw [v_1957_e]; exact tr_add h_1939 (⟨by decide, by decide⟩ : 1 ≤ (Int32.ofInt 1 : Int32).toInt ∧ (Int32.ofInt 1 : Int32).toInt ≤ 1) (by decide) (by decide) (by decide) (by decide)
                      have q_v_1957 : v_1957.toInt = x_1935.toInt + 1 := by rw [v_1957_e]; exact tr_addE h_1939 (⟨by decide, by decide⟩ : 1 ≤ (Int32.ofInt 1 : Int32).toInt ∧ (Int32.ofInt 1 : Int32).toInt ≤ 1) (by decide) (by decide)
                      refine lv_iinc (v := v_1957) (lv' := [(3, .int v_1957), (2, .int 0), (1, .int x_1842), (0, .ref mm)]) hx hb dX12_known_70 hl (k := 1) rfl v_1957_e.symm (by decide) rfl (fun ls hl => ?_)
                      refine lv_goto (tgt := 23) hx hb dX12_known_73 (by decide) ?_
                      exact ih_1936 0 v_1957 ls (⟨by decide, by decide⟩ : 0 ≤ (0 : Int32).toInt ∧ (0 : Int32).toInt ≤ 1) (tr_w h_v_1957 (by decide) (by decide)) ⟨fun h9 => absurd h9 (by decide), fun _ _ m9 => by have q0 := m9 x_1935.toInt.toNat (by (first | (clear h_i_undoMany h_i_length h_i_size h_i_p h_i_at h_i_token h_i_number h_i_faultAt h_i_isKnown h_i_toldMany c_1847_i h_1848 h_x_1934 c_1944_i h_1946; omega) | omega)); have q1 := ka_9; have q2 := kb_9; have z_0 := tk_0; (first | (clear h_i_undoMany h_i_length h_i_size h_i_p h_i_at h_i_token h_i_number h_i_faultAt h_i_isKnown h_i_toldMany c_1847_i h_1848 h_x_1934 c_1944_i h_1946; omega) | omega)⟩ (by (first | (clear h_i_undoMany h_i_length h_i_size h_i_p h_i_at h_i_token h_i_number h_i_faultAt h_i_isKnown h_i_toldMany c_1847_i h_1848 h_x_1934 c_1944_i h_1946; omega) | omega)) (lv_sub hl [0, 1, 2, 3] rfl)
                    · skip
                      have c_1955_i : (v_1951 : Int32).toInt = (0 : Int32).toInt := congrArg Int32.toInt c_1955
                      have h_1956 : 0 ≤ (v_1951 : Int32).toInt ∧ (v_1951 : Int32).toInt ≤ 0 := by rw [c_1955]; exact ⟨by decide, by decide⟩
                      refine lv_iconst (v := 1) hx hb dX12_known_64 (by decide) ?_
                      refine lv_goto (tgt := 69) hx hb dX12_known_65 (by decide) ?_
                      refine lv_istore_n (lv' := [(2, .int 1), (3, .int x_1935), (1, .int x_1842), (0, .ref mm)]) hx hb dX12_known_69 rfl hl (by decide) rfl (fun ls hl => ?_)
                      obtain ⟨v_1958, v_1958_e⟩ : ∃ y : Int32, y = x_1935 + Int32.ofInt 1 := ⟨_, rfl⟩
                      have h_v_1958 : 1 ≤ (v_1958 : Int32).toInt ∧ (v_1958 : Int32).toInt ≤ 6 := by rw [v_1958_e]; exact tr_add h_1939 (⟨by decide, by decide⟩ : 1 ≤ (Int32.ofInt 1 : Int32).toInt ∧ (Int32.ofInt 1 : Int32).toInt ≤ 1) (by decide) (by decide) (by decide) (by decide)
                      have q_v_1958 : v_1958.toInt = x_1935.toInt + 1 := by rw [v_1958_e]; exact tr_addE h_1939 (⟨by decide, by decide⟩ : 1 ≤ (Int32.ofInt 1 : Int32).toInt ∧ (Int32.ofInt 1 : Int32).toInt ≤ 1) (by decide) (by decide)
                      refine lv_iinc (v := v_1958) (lv' := [(3, .int v_1958), (2, .int 1), (1, .int x_1842), (0, .ref mm)]) hx hb dX12_known_70 hl (k := 1) rfl v_1958_e.symm (by decide) rfl (fun ls hl => ?_)
                      refine lv_goto (tgt := 23) hx hb dX12_known_73 (by decide) ?_
                      exact ih_1936 1 v_1958 ls (⟨by decide, by decide⟩ : 0 ≤ (1 : Int32).toInt ∧ (1 : Int32).toInt ≤ 1) (tr_w h_v_1958 (by decide) (by decide)) ⟨fun _ => ⟨(hr1936_0.1 (by (first | (clear h_i_undoMany h_i_length h_i_size h_i_p h_i_at h_i_token h_i_number h_i_faultAt h_i_isKnown h_i_toldMany c_1847_i h_1848 h_x_1934 c_1944_i h_1946; omega) | omega))).1, all_nx (hr1936_0.1 (by (first | (clear h_i_undoMany h_i_length h_i_size h_i_p h_i_at h_i_token h_i_number h_i_faultAt h_i_isKnown h_i_toldMany c_1847_i h_1848 h_x_1934 c_1944_i h_1946; omega) | omega))).2 (by have q1 := ka_9; have q2 := kb_9; have z_0 := tk_0; (first | (clear h_i_undoMany h_i_length h_i_size h_i_p h_i_at h_i_token h_i_number h_i_faultAt h_i_isKnown h_i_toldMany c_1847_i h_1848 h_x_1934 c_1944_i h_1946; omega) | omega)) (by (first | (clear h_i_undoMany h_i_length h_i_size h_i_p h_i_at h_i_token h_i_number h_i_faultAt h_i_isKnown h_i_toldMany c_1847_i h_1848 h_x_1934 c_1944_i h_1946; omega) | omega))⟩, fun h9 => absurd h9 (by decide)⟩ (by (first | (clear h_i_undoMany h_i_length h_i_size h_i_p h_i_at h_i_token h_i_number h_i_faultAt h_i_isKnown h_i_toldMany c_1847_i h_1848 h_x_1934 c_1944_i h_1946; omega) | omega)) (lv_sub hl [0, 1, 2, 3] rfl)
                  · skip
                    have c_1952_i := Int32.lt_iff_toInt_lt.mp (Int32.not_le.mp c_1952)
                    have h_1954 : 1 ≤ (i_letterMany : Int32).toInt ∧ (i_letterMany : Int32).toInt ≤ 440 := nr_lt_r h_1939 h_i_letterMany c_1952_i (by decide) (by decide)
                    refine lv_aload_n hx hb dX12_known_51 rfl (lv_at hl 3 rfl) ?_
                    refine va_get (D := D) (ci := 12) (v := .ref m_letters) (C := RX12) (T := TX12) (N := 35) hx hb hts inlX12 hown hK hP 0 rfl rfl 18 (by decide) (hts (Cond.fieldLink RX12 37 "ChanceRingsModel" "letters" "[B") qw_28) (fun _ h9 => h9) rfl dX12_known_52 ?_
                    refine lv_iload_n hx hb dX12_known_55 rfl (lv_at hl 0 rfl) ?_
                    refine va_bald hx hb hK hP 1 2 rfl rfl (tr_in h_1939 (by decide) (by decide)) dX12_known_56 ?_
                    refine lv_topi (fun v_1959 v_1959_e => ?_)
                    have g_v_1959 : v_1959 = lf (x_1935.toInt.toNat) := v_1959_e.trans (congrArg lf rfl)
                    have gi_v_1959 := congrArg Int32.toInt g_v_1959
                    refine lv_goto (tgt := 61) hx hb dX12_known_57 (by decide) ?_
                    have kb_9 : pad lf (i_letterMany : Int32).toInt x_1935.toInt.toNat = v_1959.toInt := (if_pos (by (first | (clear h_i_undoMany h_i_length h_i_size h_i_p h_i_at h_i_token h_i_number h_i_faultAt h_i_isKnown h_i_toldMany c_1847_i h_1848 h_x_1934 c_1944_i h_1946; omega) | omega))).trans gi_v_1959.symm
                    refine lv_icmp_ne (tgt := 68) hx hb dX12_known_61 (by decide) (fun c_1960 => ?_) (fun c_1960 => ?_)
                    · skip
                      have c_1960_i : ¬ (v_1951 : Int32).toInt = (v_1959 : Int32).toInt := (fun q => c_1960 (Int32.toInt_inj.mp q))
                      refine lv_iconst (v := 0) hx hb dX12_known_68 (by decide) ?_
                      refine lv_istore_n (lv' := [(2, .int 0), (3, .int x_1935), (1, .int x_1842), (0, .ref mm)]) hx hb dX12_known_69 rfl hl (by decide) rfl (fun ls hl => ?_)
                      obtain ⟨v_1961, v_1961_e⟩ : ∃ y : Int32, y = x_1935 + Int32.ofInt 1 := ⟨_, rfl⟩
                      have h_v_1961 : 1 ≤ (v_1961 : Int32).toInt ∧ (v_1961 : Int32).toInt ≤ 6 := by rw [v_1961_e]; exact tr_add h_1939 (⟨by decide, by decide⟩ : 1 ≤ (Int32.ofInt 1 : Int32).toInt ∧ (Int32.ofInt 1 : Int32).toInt ≤ 1) (by decide) (by decide) (by decide) (by decide)
                      have q_v_1961 : v_1961.toInt = x_1935.toInt + 1 := by rw [v_1961_e]; exact tr_addE h_1939 (⟨by decide, by decide⟩ : 1 ≤ (Int32.ofInt 1 : Int32).toInt ∧ (Int32.ofInt 1 : Int32).toInt ≤ 1) (by decide) (by decide)
                      refine lv_iinc (v := v_1961) (lv' := [(3, .int v_1961), (2, .int 0), (1, .int x_1842), (0, .ref mm)]) hx hb dX12_known_70 hl (k := 1) rfl v_1961_e.symm (by decide) rfl (fun ls hl => ?_)
                      refine lv_goto (tgt := 23) hx hb dX12_known_73 (by decide) ?_
                      exact ih_1936 0 v_1961 ls (⟨by decide, by decide⟩ : 0 ≤ (0 : Int32).toInt ∧ (0 : Int32).toInt ≤ 1) (tr_w h_v_1961 (by decide) (by decide)) ⟨fun h9 => absurd h9 (by decide), fun _ _ m9 => by have q0 := m9 x_1935.toInt.toNat (by (first | (clear h_i_undoMany h_i_length h_i_size h_i_p h_i_at h_i_token h_i_number h_i_faultAt h_i_isKnown h_i_toldMany c_1847_i h_1848 h_x_1934 c_1944_i h_1946; omega) | omega)); have q1 := ka_9; have q2 := kb_9; have z_0 := tk_0; (first | (clear h_i_undoMany h_i_length h_i_size h_i_p h_i_at h_i_token h_i_number h_i_faultAt h_i_isKnown h_i_toldMany c_1847_i h_1848 h_x_1934 c_1944_i h_1946; omega) | omega)⟩ (by (first | (clear h_i_undoMany h_i_length h_i_size h_i_p h_i_at h_i_token h_i_number h_i_faultAt h_i_isKnown h_i_toldMany c_1847_i h_1848 h_x_1934 c_1944_i h_1946; omega) | omega)) (lv_sub hl [0, 1, 2, 3] rfl)
                    · skip
                      have c_1960_i : (v_1951 : Int32).toInt = (v_1959 : Int32).toInt := congrArg Int32.toInt c_1960
                      refine lv_iconst (v := 1) hx hb dX12_known_64 (by decide) ?_
                      refine lv_goto (tgt := 69) hx hb dX12_known_65 (by decide) ?_
                      refine lv_istore_n (lv' := [(2, .int 1), (3, .int x_1935), (1, .int x_1842), (0, .ref mm)]) hx hb dX12_known_69 rfl hl (by decide) rfl (fun ls hl => ?_)
                      obtain ⟨v_1962, v_1962_e⟩ : ∃ y : Int32, y = x_1935 + Int32.ofInt 1 := ⟨_, rfl⟩
                      have h_v_1962 : 1 ≤ (v_1962 : Int32).toInt ∧ (v_1962 : Int32).toInt ≤ 6 := by rw [v_1962_e]; exact tr_add h_1939 (⟨by decide, by decide⟩ : 1 ≤ (Int32.ofInt 1 : Int32).toInt ∧ (Int32.ofInt 1 : Int32).toInt ≤ 1) (by decide) (by decide) (by decide) (by decide)
                      have q_v_1962 : v_1962.toInt = x_1935.toInt + 1 := by rw [v_1962_e]; exact tr_addE h_1939 (⟨by decide, by decide⟩ : 1 ≤ (Int32.ofInt 1 : Int32).toInt ∧ (Int32.ofInt 1 : Int32).toInt ≤ 1) (by decide) (by decide)
                      refine lv_iinc (v := v_1962) (lv' := [(3, .int v_1962), (2, .int 1), (1, .int x_1842), (0, .ref mm)]) hx hb dX12_known_70 hl (k := 1) rfl v_1962_e.symm (by decide) rfl (fun ls hl => ?_)
                      refine lv_goto (tgt := 23) hx hb dX12_known_73 (by decide) ?_
                      exact ih_1936 1 v_1962 ls (⟨by decide, by decide⟩ : 0 ≤ (1 : Int32).toInt ∧ (1 : Int32).toInt ≤ 1) (tr_w h_v_1962 (by decide) (by decide)) ⟨fun _ => ⟨(hr1936_0.1 (by (first | (clear h_i_undoMany h_i_length h_i_size h_i_p h_i_at h_i_token h_i_number h_i_faultAt h_i_isKnown h_i_toldMany c_1847_i h_1848 h_x_1934 c_1944_i h_1946; omega) | omega))).1, all_nx (hr1936_0.1 (by (first | (clear h_i_undoMany h_i_length h_i_size h_i_p h_i_at h_i_token h_i_number h_i_faultAt h_i_isKnown h_i_toldMany c_1847_i h_1848 h_x_1934 c_1944_i h_1946; omega) | omega))).2 (by have q1 := ka_9; have q2 := kb_9; have z_0 := tk_0; (first | (clear h_i_undoMany h_i_length h_i_size h_i_p h_i_at h_i_token h_i_number h_i_faultAt h_i_isKnown h_i_toldMany c_1847_i h_1848 h_x_1934 c_1944_i h_1946; omega) | omega)) (by (first | (clear h_i_undoMany h_i_length h_i_size h_i_p h_i_at h_i_token h_i_number h_i_faultAt h_i_isKnown h_i_toldMany c_1847_i h_1848 h_x_1934 c_1944_i h_1946; omega) | omega))⟩, fun h9 => absurd h9 (by decide)⟩ (by (first | (clear h_i_undoMany h_i_length h_i_size h_i_p h_i_at h_i_token h_i_number h_i_faultAt h_i_isKnown h_i_toldMany c_1847_i h_1848 h_x_1934 c_1944_i h_1946; omega) | omega)) (lv_sub hl [0, 1, 2, 3] rfl)
          exact lp_1936 7 1 0 ls (⟨by decide, by decide⟩ : 0 ≤ (1 : Int32).toInt ∧ (1 : Int32).toInt ≤ 1) (⟨by decide, by decide⟩ : 0 ≤ (0 : Int32).toInt ∧ (0 : Int32).toInt ≤ 6) ⟨fun _ => ⟨by have z_1 := tk_1; (first | (clear h_i_undoMany h_i_length h_i_size h_i_p h_i_at h_i_token h_i_number h_i_letterMany h_i_faultAt h_i_isKnown h_i_toldMany h_x_1842 c_1844_i h_1846 c_1847_i h_1848; omega) | omega), fun q h9 => absurd h9 (Nat.not_lt_zero q)⟩, fun h9 => absurd h9 (by decide)⟩ (by decide) (lv_sub hl [0, 1, 2, 3] rfl)
  exact lp_1843 6 0 ls (⟨by decide, by decide⟩ : 0 ≤ (0 : Int32).toInt ∧ (0 : Int32).toInt ≤ 5) (fun k h9 => absurd h9 (Nat.not_lt_zero k)) (by decide) (lv_sub hl [0, 1] rfl)
set_option maxHeartbeats 4000000 in
set_option maxRecDepth 100000 in
theorem c_X12_isName (l : Launch) (D : va_G) (g : Nat → ClassId) (kn : Nat) (kf : Nat → Int32) (A : Nat → Prop) (mm : Nat) (i_thrown : Int32) (m_s : Nat) (m_spare : Nat) (m_kept : Nat) (m_undone : Nat) (m_triedWay : Nat) (m_isKept : Nat) (i_undoMany : Int32) (m_tape : Nat) (i_length : Int32) (i_size : Int32) (i_p : Int32) (i_at : Int32) (i_token : Int32) (i_number : Int32) (i_letterMany : Int32) (i_fault : Int32) (i_faultAt : Int32) (m_letters : Nat) (i_isKnown : Int32) (m_choice : Nat) (m_row : Nat) (m_up : Nat) (m_low : Nat) (m_m : Nat) (m_bestUp : Nat) (m_bestLow : Nat) (m_replyUp : Nat) (m_replyLow : Nat) (m_worthUp : Nat) (m_worthLow : Nat) (m_bestWay : Nat) (i_seed : Int32) (m_told : Nat) (i_toldMany : Int32) (lf : Nat → Int32) (h_i_undoMany : 0 ≤ (i_undoMany : Int32).toInt ∧ (i_undoMany : Int32).toInt ≤ 8) (h_i_length : 0 ≤ (i_length : Int32).toInt ∧ (i_length : Int32).toInt ≤ 440) (h_i_size : 0 ≤ (i_size : Int32).toInt ∧ (i_size : Int32).toInt ≤ 440) (h_i_p : 0 ≤ (i_p : Int32).toInt ∧ (i_p : Int32).toInt ≤ 440) (h_i_at : 0 ≤ (i_at : Int32).toInt ∧ (i_at : Int32).toInt ≤ 440) (h_i_token : 0 ≤ (i_token : Int32).toInt ∧ (i_token : Int32).toInt ≤ 4) (h_i_number : 0 ≤ (i_number : Int32).toInt ∧ (i_number : Int32).toInt ≤ 814) (h_i_letterMany : (-440) ≤ (i_letterMany : Int32).toInt ∧ (i_letterMany : Int32).toInt ≤ 440) (h_i_faultAt : 0 ≤ (i_faultAt : Int32).toInt ∧ (i_faultAt : Int32).toInt ≤ 440) (h_i_isKnown : 0 ≤ (i_isKnown : Int32).toInt ∧ (i_isKnown : Int32).toInt ≤ 1) (h_i_toldMany : 0 ≤ (i_toldMany : Int32).toInt ∧ (i_toldMany : Int32).toInt ≤ 900) (hkn : KNs kf) (hwl : (i_token : Int32).toInt = 1 → WLF lf (i_letterMany : Int32).toInt) : Met l yX12_isName (.code yX12_isName cX12_isName 1 (some .boolean) :: wsL_law) ({ frames := 1, cells := 0, slots := 0, locals := 23 }) (va_Pc [.ref mm] (fun U => va_P D vwCl [(mm, .inr (12, (.int i_thrown :: .ref m_s :: .ref m_spare :: .ref m_kept :: .ref m_undone :: .ref m_triedWay :: .ref m_isKept :: .int i_undoMany :: .ref m_tape :: .int i_length :: .int i_size :: .int i_p :: .int i_at :: .int i_token :: .int i_number :: .int i_letterMany :: .int i_fault :: .int i_faultAt :: .ref m_letters :: .int i_isKnown :: .ref m_choice :: .ref m_row :: .ref m_up :: .ref m_low :: .ref m_m :: .ref m_bestUp :: .ref m_bestLow :: .ref m_replyUp :: .ref m_replyLow :: .ref m_worthUp :: .ref m_worthLow :: .ref m_bestWay :: .int i_seed :: .ref m_told :: .int i_toldMany :: []))), (m_letters, .inl (g 2, 6, .inl lf))] U.heap ∧ va_K D vwCl (TY g) U ∧ ZK kn kf A U U.heap)) (vp_Si (fun r => (0 ≤ (r : Int32).toInt ∧ (r : Int32).toInt ≤ 1) ∧ (Hide (¬ (r : Int32).toInt = 0 → (i_token : Int32).toInt = 1)) ∧ (Hide (¬ (r : Int32).toInt = 0 → NMC (i_token : Int32).toInt (wcd lf (i_letterMany : Int32).toInt))) ∧ (Hide ((r : Int32).toInt = 0 → ¬ NMC (i_token : Int32).toInt (wcd lf (i_letterMany : Int32).toInt))))) 0 0 (fun _ => False) := by
  refine Met.ofW (cc := cX12_isName) (maxL := 1) (ret := (some .boolean)) (by decide) rfl ?_
  intro p e s m args below meth c s₁ B hml hv
  obtain ⟨ha, hP, hK, hZ⟩ := hv
  have hx := B.exec
  have hb := B.bytes
  have hr := B.returns
  have hts0 := atoms_spec (ws := (.code yX12_isName cX12_isName 1 (some .boolean) :: wsL_law)) B.pre
  have hts : ∀ w ∈ wsL_law, w.before args s = true := fun w h => hts0 w (List.mem_cons_of_mem _ h)
  have hown : s.vm.findClass RX12 = some m.cls := findClass_of_methodNamed B.named
  have hlocks := B.notSynchronized
  have hP : va_P D vwCl [(mm, .inr (12, (.int i_thrown :: .ref m_s :: .ref m_spare :: .ref m_kept :: .ref m_undone :: .ref m_triedWay :: .ref m_isKept :: .int i_undoMany :: .ref m_tape :: .int i_length :: .int i_size :: .int i_p :: .int i_at :: .int i_token :: .int i_number :: .int i_letterMany :: .int i_fault :: .int i_faultAt :: .ref m_letters :: .int i_isKnown :: .ref m_choice :: .ref m_row :: .ref m_up :: .ref m_low :: .ref m_m :: .ref m_bestUp :: .ref m_bestLow :: .ref m_replyUp :: .ref m_replyLow :: .ref m_worthUp :: .ref m_worthLow :: .ref m_bestWay :: .int i_seed :: .ref m_told :: .int i_toldMany :: []))), (m_letters, .inl (g 2, 6, .inl lf))] s.heap := hP
  refine W.eq (g2 := entryFrame m ([.ref mm] : List Value).toArray 1) (by rw [ha]) ?_
  have hl := lv_entry ([.ref mm]) (n := 1) (Nat.le_of_ble_eq_true rfl)
  rw [lg_entry_eq]
  generalize (lg_sl ([.ref mm]) ++ List.replicate (1 - (lg_sl ([.ref mm])).length) Slot.unset).toArray = ls at hl ⊢
  have hl : lv_has ls 1 [(0, .ref mm)] := hl
  refine lv_aload_n hx hb dX12_isName_0 rfl (lv_at hl 0 rfl) ?_
  refine va_get (D := D) (ci := 12) (v := .int i_token) (C := RX12) (T := TX12) (N := 35) hx hb hts inlX12 hown hK hP 0 rfl rfl 13 (by decide) (hts (Cond.fieldLink RX12 116 "ChanceRingsModel" "token" "I") qw_33) (fun _ h9 => h9) rfl dX12_isName_1 ?_
  refine lv_iconst (v := 1) hx hb dX12_isName_4 (by decide) ?_
  refine lv_icmp_ne (tgt := 19) hx hb dX12_isName_5 (by decide) (fun c_1963 => ?_) (fun c_1963 => ?_)
  · skip
    have kk_1 := tk_1
    have c_1963_i : ¬ (i_token : Int32).toInt = (1 : Int32).toInt := (fun q => c_1963 (Int32.toInt_inj.mp q))
    refine lv_iconst (v := 0) hx hb dX12_isName_19 (by decide) ?_
    exact W.zret (v := 0) hx hb hr (by decide) (fun t ht hW => ⟨0, rfl, ⟨(⟨by decide, by decide⟩ : 0 ≤ (0 : Int32).toInt ∧ (0 : Int32).toInt ≤ 1), (fun h9 => (by have z_0 := tk_0; have z_1 := tk_1; (first | (clear h_i_undoMany h_i_length h_i_size h_i_p h_i_at h_i_token h_i_number h_i_letterMany h_i_faultAt h_i_isKnown h_i_toldMany hwl c_1963_i; omega) | omega))), (fun h9 => absurd (by decide) h9), (fun _ q9 => absurd q9.1 (by have z_0 := tk_0; have z_1 := tk_1; (first | (clear h_i_undoMany h_i_length h_i_size h_i_p h_i_at h_i_token h_i_number h_i_letterMany h_i_faultAt h_i_isKnown h_i_toldMany hwl c_1963_i; omega) | omega)))⟩, ht⟩) (fun _ h => nomatch h) dX12_isName_20
  · skip
    have kk_1 := tk_1
    have c_1963_i : (i_token : Int32).toInt = (1 : Int32).toInt := congrArg Int32.toInt c_1963
    have h_1964 : 1 ≤ (i_token : Int32).toInt ∧ (i_token : Int32).toInt ≤ 1 := nr_eq_l h_i_token (⟨by decide, by decide⟩ : 1 ≤ (1 : Int32).toInt ∧ (1 : Int32).toInt ≤ 1) c_1963_i (by decide) (by decide)
    refine lv_aload_n hx hb dX12_isName_8 rfl (lv_at hl 0 rfl) ?_
    have hPc := hP.sub (ws' := [(mm, .inr (12, (.int i_thrown :: .ref m_s :: .ref m_spare :: .ref m_kept :: .ref m_undone :: .ref m_triedWay :: .ref m_isKept :: .int i_undoMany :: .ref m_tape :: .int i_length :: .int i_size :: .int i_p :: .int i_at :: .int i_token :: .int i_number :: .int i_letterMany :: .int i_fault :: .int i_faultAt :: .ref m_letters :: .int i_isKnown :: .ref m_choice :: .ref m_row :: .ref m_up :: .ref m_low :: .ref m_m :: .ref m_bestUp :: .ref m_bestLow :: .ref m_replyUp :: .ref m_replyLow :: .ref m_worthUp :: .ref m_worthLow :: .ref m_bestWay :: .int i_seed :: .ref m_told :: .int i_toldMany :: []))), (m_letters, .inl (g 2, 6, .inl lf))]) [0, 1] rfl
    refine vp_callSi (va_Run.run (va_runV (As := []) (rest := []) ⟨hx, hb, hml, hown, hts⟩ (c_X12_known l D g kn kf A mm i_thrown m_s m_spare m_kept m_undone m_triedWay m_isKept i_undoMany m_tape i_length i_size i_p i_at i_token i_number i_letterMany i_fault i_faultAt m_letters i_isKnown m_choice m_row m_up m_low m_m m_bestUp m_bestLow m_replyUp m_replyLow m_worthUp m_worthLow m_bestWay i_seed m_told i_toldMany lf (tr_w h_i_undoMany (by decide) (by decide)) (tr_w h_i_length (by decide) (by decide)) (tr_w h_i_size (by decide) (by decide)) (tr_w h_i_p (by decide) (by decide)) (tr_w h_i_at (by decide) (by decide)) (tr_w h_1964 (by decide) (by decide)) (tr_w h_i_number (by decide) (by decide)) (tr_w h_i_letterMany (by decide) (by decide)) (tr_w h_i_faultAt (by decide) (by decide)) (tr_w h_i_isKnown (by decide) (by decide)) (tr_w h_i_toldMany (by decide) (by decide))) (cwV 0 hts (tz_gV qw_35 qw_36 qw_37 qw_3 qw_38) rfl rfl rfl (by decide +kernel) ⟨Nat.le_of_ble_eq_true rfl, Nat.le_of_ble_eq_true rfl⟩) ⟨tz_blSK, va_recv hK hPc (ci := 12) (q0 := 0) rfl rfl, tz_preSK hPc hK (hZ.kept va_S.rf (fun _ h => h))⟩ rfl rfl hl.1 rfl (lv_room (Nat.le_of_ble_eq_true rfl)) dX12_isName_9 ⟨Nat.le_of_ble_eq_true rfl, Nat.le_of_ble_eq_true rfl⟩)) (fun r_1965 hw => ?_)
    have hw_1966 : (-1) ≤ (r_1965 : Int32).toInt ∧ (r_1965 : Int32).toInt ≤ 4 := hw.1
    have hw_1966_p0 : Hide ((r_1965 : Int32).toInt = -1 → (i_token : Int32).toInt = 1 → ∀ k : Nat, k < 5 → ¬ Mt6 (kw6 kf k) (pad lf (i_letterMany : Int32).toInt)) := hw.2.1
    have hw_1966_p1 : Hide (0 ≤ (r_1965 : Int32).toInt → (i_token : Int32).toInt = 1 ∧ Mt6 (kw6 kf (r_1965 : Int32).toInt.toNat) (pad lf (i_letterMany : Int32).toInt)) := hw.2.2
    refine lv_if_ge (tgt := 19) hx hb dX12_isName_12 (by decide) (fun c_1967 => ?_) (fun c_1967 => ?_)
    · skip
      have kk_0 := tk_0
      have c_1967_i := Int32.le_iff_toInt_le.mp c_1967
      have h_1968 : 0 ≤ (r_1965 : Int32).toInt ∧ (r_1965 : Int32).toInt ≤ 4 := nr_le_r (⟨by decide, by decide⟩ : 0 ≤ (0 : Int32).toInt ∧ (0 : Int32).toInt ≤ 0) hw_1966 c_1967_i (by decide) (by decide)
      refine lv_iconst (v := 0) hx hb dX12_isName_19 (by decide) ?_
      exact W.zret (v := 0) hx hb hr (by decide) (fun t ht hW => ⟨0, rfl, ⟨(⟨by decide, by decide⟩ : 0 ≤ (0 : Int32).toInt ∧ (0 : Int32).toInt ≤ 1), (fun h9 => (by have z_0 := tk_0; have z_1 := tk_1; (first | (clear h_i_undoMany h_i_length h_i_size h_i_p h_i_at h_i_number h_i_faultAt h_i_isKnown h_i_toldMany hw_1966 c_1967_i h_1968; omega) | omega))), (fun h9 => absurd (by decide) h9), (fun _ q9 => by have k9 := kw_kd hkn (hwl q9.1) (by have z_0 := tk_0; have z_1 := tk_1; (first | (clear h_i_undoMany h_i_length h_i_size h_i_p h_i_at h_i_number h_i_faultAt h_i_isKnown h_i_toldMany hw_1966 c_1967_i h_1968; omega) | omega)) ((hw_1966_p1).get (by have z_0 := tk_0; have z_1 := tk_1; (first | (clear h_i_undoMany h_i_length h_i_size h_i_p h_i_at h_i_number h_i_faultAt h_i_isKnown h_i_toldMany hw_1966 c_1967_i h_1968; omega) | omega))).2; have k8 := q9.2; (first | (clear h_i_undoMany h_i_length h_i_size h_i_p h_i_at h_i_number h_i_faultAt h_i_isKnown h_i_toldMany hw_1966 c_1967_i h_1968; omega) | omega))⟩, ht⟩) (fun _ h => nomatch h) dX12_isName_20
    · skip
      have kk_0 := tk_0
      have c_1967_i := Int32.lt_iff_toInt_lt.mp (Int32.not_le.mp c_1967)
      have h_1969 : (-1) ≤ (r_1965 : Int32).toInt ∧ (r_1965 : Int32).toInt ≤ (-1) := nr_lt_l hw_1966 (⟨by decide, by decide⟩ : 0 ≤ (0 : Int32).toInt ∧ (0 : Int32).toInt ≤ 0) c_1967_i (by decide) (by decide)
      refine lv_iconst (v := 1) hx hb dX12_isName_15 (by decide) ?_
      refine lv_goto (tgt := 20) hx hb dX12_isName_16 (by decide) ?_
      exact W.zret (v := 1) hx hb hr (by decide) (fun t ht hW => ⟨1, rfl, ⟨(⟨by decide, by decide⟩ : 0 ≤ (1 : Int32).toInt ∧ (1 : Int32).toInt ≤ 1), (fun h9 => (by have z_0 := tk_0; have z_1 := tk_1; (first | (clear h_i_undoMany h_i_length h_i_size h_i_p h_i_at h_i_number h_i_faultAt h_i_isKnown h_i_toldMany hw_1966 c_1967_i h_1969; omega) | omega))), (fun _ => ⟨by have z_0 := tk_0; have z_1 := tk_1; (first | (clear h_i_undoMany h_i_length h_i_size h_i_p h_i_at h_i_number h_i_faultAt h_i_isKnown h_i_toldMany hw_1966 c_1967_i h_1969; omega) | omega), kw_no hkn (hwl (by have z_0 := tk_0; have z_1 := tk_1; (first | (clear h_i_undoMany h_i_length h_i_size h_i_p h_i_at h_i_number h_i_faultAt h_i_isKnown h_i_toldMany hw_1966 c_1967_i h_1969; omega) | omega))) ((hw_1966_p0).get (by have z_0 := tk_0; have z_1 := tk_1; (first | (clear h_i_undoMany h_i_length h_i_size h_i_p h_i_at h_i_number h_i_faultAt h_i_isKnown h_i_toldMany hw_1966 c_1967_i h_1969; omega) | omega)) (by have z_0 := tk_0; have z_1 := tk_1; (first | (clear h_i_undoMany h_i_length h_i_size h_i_p h_i_at h_i_number h_i_faultAt h_i_isKnown h_i_toldMany hw_1966 c_1967_i h_1969; omega) | omega)))⟩), (fun h9 => absurd h9 (by decide))⟩, ht⟩) (fun _ h => nomatch h) dX12_isName_20
