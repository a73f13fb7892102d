theorem qw_878 : Cond.fieldLink RJ0 38 "java/lang/String" "COMPACT_STRINGS" "Z" ∈ wsL_law := tseg_1 (by decide +kernel) (List.mem_of_getElem? (i := 128) rfl)
theorem qw_879 : Cond.fieldLink RJ0 15 "java/lang/String" "coder" "B" ∈ wsL_law := tseg_7 (by decide +kernel) (List.mem_of_getElem? (i := 186) rfl)
theorem qw_880 : Cond.fieldLink RJ0 9 "java/lang/String" "value" "[B" ∈ wsL_law := tseg_7 (by decide +kernel) (List.mem_of_getElem? (i := 185) rfl)
theorem qw_881 : Cond.methodLink RJ0 335 yJ0_coder_7d493 ∈ wsL_law := tseg_1 (by decide +kernel) (List.mem_of_getElem? (i := 124) rfl)
theorem qw_882 : Cond.instanceMethod yJ0_coder_7d493 ∈ wsL_law := tseg_1 (by decide +kernel) (List.mem_of_getElem? (i := 125) rfl)
theorem qw_883 : Cond.selects RJ0 yJ0_coder_7d493 yJ0_coder_7d493 ∈ wsL_law := tseg_1 (by decide +kernel) (List.mem_of_getElem? (i := 126) rfl)
theorem qw_884 : Cond.initialized RJ0 ∈ wsL_law := tseg_1 (by decide +kernel) (List.mem_of_getElem? (i := 5) rfl)
theorem qw_885 : Cond.code yJ0_coder_7d493 cJ0_coder_7d493 1 (some .byte) ∈ wsL_law := tseg_1 (by decide +kernel) (List.mem_of_getElem? (i := 127) rfl)
theorem qw_886 : Cond.fieldLink RJ0 1053 "jdk/internal/util/Preconditions" "SIOOBE_FORMATTER" "Ljava/util/function/BiFunction;" ∈ wsL_law := tseg_1 (by decide +kernel) (List.mem_of_getElem? (i := 144) rfl)
theorem qw_887 : Cond.methodLink RJ0 1059 yJ3_checkIndex_8e157 ∈ wsL_law := tseg_1 (by decide +kernel) (List.mem_of_getElem? (i := 146) rfl)
theorem qw_888 : Cond.static yJ3_checkIndex_8e157 ∈ wsL_law := tseg_1 (by decide +kernel) (List.mem_of_getElem? (i := 147) rfl)
theorem qw_889 : Cond.initialized RJ3 ∈ wsL_law := tseg_1 (by decide +kernel) (List.mem_of_getElem? (i := 7) rfl)
theorem qw_890 : Cond.code yJ3_checkIndex_8e157 cJ3_checkIndex_8e157 3 (some .int) ∈ wsL_law := tseg_1 (by decide +kernel) (List.mem_of_getElem? (i := 148) rfl)
theorem qw_891 : Cond.methodLink RJ1 9 yJ0_checkIndex_df160 ∈ wsL_law := tseg_1 (by decide +kernel) (List.mem_of_getElem? (i := 141) rfl)
theorem qw_892 : Cond.static yJ0_checkIndex_df160 ∈ wsL_law := tseg_1 (by decide +kernel) (List.mem_of_getElem? (i := 142) rfl)
theorem qw_893 : Cond.code yJ0_checkIndex_df160 cJ0_checkIndex_df160 2 none ∈ wsL_law := tseg_1 (by decide +kernel) (List.mem_of_getElem? (i := 143) rfl)
theorem qw_894 : Cond.methodLink RJ0 492 yJ0_isLatin1_aae02 ∈ wsL_law := tseg_1 (by decide +kernel) (List.mem_of_getElem? (i := 134) rfl)
theorem qw_895 : Cond.instanceMethod yJ0_isLatin1_aae02 ∈ wsL_law := tseg_1 (by decide +kernel) (List.mem_of_getElem? (i := 135) rfl)
theorem qw_896 : Cond.selects RJ0 yJ0_isLatin1_aae02 yJ0_isLatin1_aae02 ∈ wsL_law := tseg_1 (by decide +kernel) (List.mem_of_getElem? (i := 136) rfl)
theorem qw_897 : Cond.code yJ0_isLatin1_aae02 cJ0_isLatin1_aae02 1 (some .boolean) ∈ wsL_law := tseg_1 (by decide +kernel) (List.mem_of_getElem? (i := 137) rfl)
theorem qw_898 : Cond.methodLink RJ0 495 yJ1_charAt_3b067 ∈ wsL_law := tseg_1 (by decide +kernel) (List.mem_of_getElem? (i := 138) rfl)
theorem qw_899 : Cond.static yJ1_charAt_3b067 ∈ wsL_law := tseg_1 (by decide +kernel) (List.mem_of_getElem? (i := 139) rfl)
theorem qw_900 : Cond.initialized RJ1 ∈ wsL_law := tseg_1 (by decide +kernel) (List.mem_of_getElem? (i := 6) rfl)
theorem qw_901 : Cond.code yJ1_charAt_3b067 cJ1_charAt_3b067 2 (some .char) ∈ wsL_law := tseg_1 (by decide +kernel) (List.mem_of_getElem? (i := 140) rfl)
theorem qw_902 : Cond.methodLink RX11 318 yJ0_length_8abf5 ∈ wsL_law := tseg_1 (by decide +kernel) (List.mem_of_getElem? (i := 120) rfl)
theorem qw_903 : Cond.instanceMethod yJ0_length_8abf5 ∈ wsL_law := tseg_1 (by decide +kernel) (List.mem_of_getElem? (i := 121) rfl)
theorem qw_904 : Cond.selects RJ0 yJ0_length_8abf5 yJ0_length_8abf5 ∈ wsL_law := tseg_1 (by decide +kernel) (List.mem_of_getElem? (i := 122) rfl)
theorem qw_905 : Cond.code yJ0_length_8abf5 cJ0_length_8abf5 1 (some .int) ∈ wsL_law := tseg_1 (by decide +kernel) (List.mem_of_getElem? (i := 123) rfl)
theorem qw_906 : Cond.methodLink RX11 322 yJ0_charAt_5068e ∈ wsL_law := tseg_1 (by decide +kernel) (List.mem_of_getElem? (i := 130) rfl)
theorem qw_907 : Cond.instanceMethod yJ0_charAt_5068e ∈ wsL_law := tseg_1 (by decide +kernel) (List.mem_of_getElem? (i := 131) rfl)
theorem qw_908 : Cond.selects RJ0 yJ0_charAt_5068e yJ0_charAt_5068e ∈ wsL_law := tseg_1 (by decide +kernel) (List.mem_of_getElem? (i := 132) rfl)
theorem qw_909 : Cond.code yJ0_charAt_5068e cJ0_charAt_5068e 2 (some .char) ∈ wsL_law := tseg_1 (by decide +kernel) (List.mem_of_getElem? (i := 133) rfl)
theorem dJ0_charAt_5068e_0 : decode cJ0_charAt_5068e 0 = .ok (.aload_n 0, 1) := by decide +kernel
theorem dJ0_charAt_5068e_1 : decode cJ0_charAt_5068e 1 = .ok (.invokevirtual 492, 3) := by decide +kernel
theorem dJ0_charAt_5068e_4 : decode cJ0_charAt_5068e 4 = .ok (.ifCond .eq 12, 3) := by decide +kernel
theorem dJ0_charAt_5068e_7 : decode cJ0_charAt_5068e 7 = .ok (.aload_n 0, 1) := by decide +kernel
theorem dJ0_charAt_5068e_8 : decode cJ0_charAt_5068e 8 = .ok (.getfield 9, 3) := by decide +kernel
theorem dJ0_charAt_5068e_11 : decode cJ0_charAt_5068e 11 = .ok (.iload_n 1, 1) := by decide +kernel
theorem dJ0_charAt_5068e_12 : decode cJ0_charAt_5068e 12 = .ok (.invokestatic 495, 3) := by decide +kernel
theorem dJ0_charAt_5068e_15 : decode cJ0_charAt_5068e 15 = .ok (.ireturn, 1) := by decide +kernel
theorem dJ0_checkIndex_df160_0 : decode cJ0_checkIndex_df160 0 = .ok (.iload_n 0, 1) := by decide +kernel
theorem dJ0_checkIndex_df160_1 : decode cJ0_checkIndex_df160 1 = .ok (.iload_n 1, 1) := by decide +kernel
theorem dJ0_checkIndex_df160_2 : decode cJ0_checkIndex_df160 2 = .ok (.getstatic 1053, 3) := by decide +kernel
theorem dJ0_checkIndex_df160_5 : decode cJ0_checkIndex_df160 5 = .ok (.invokestatic 1059, 3) := by decide +kernel
theorem dJ0_checkIndex_df160_8 : decode cJ0_checkIndex_df160 8 = .ok (.pop, 1) := by decide +kernel
theorem dJ0_checkIndex_df160_9 : decode cJ0_checkIndex_df160 9 = .ok (.return_, 1) := by decide +kernel
theorem dJ0_coder_7d493_0 : decode cJ0_coder_7d493 0 = .ok (.getstatic 38, 3) := by decide +kernel
theorem dJ0_coder_7d493_3 : decode cJ0_coder_7d493 3 = .ok (.ifCond .eq 10, 3) := by decide +kernel
theorem dJ0_coder_7d493_6 : decode cJ0_coder_7d493 6 = .ok (.aload_n 0, 1) := by decide +kernel
theorem dJ0_coder_7d493_7 : decode cJ0_coder_7d493 7 = .ok (.getfield 15, 3) := by decide +kernel
theorem dJ0_coder_7d493_10 : decode cJ0_coder_7d493 10 = .ok (.goto 4, 3) := by decide +kernel
theorem dJ0_coder_7d493_14 : decode cJ0_coder_7d493 14 = .ok (.ireturn, 1) := by decide +kernel
theorem dJ0_isLatin1_aae02_0 : decode cJ0_isLatin1_aae02 0 = .ok (.getstatic 38, 3) := by decide +kernel
theorem dJ0_isLatin1_aae02_3 : decode cJ0_isLatin1_aae02 3 = .ok (.ifCond .eq 14, 3) := by decide +kernel
theorem dJ0_isLatin1_aae02_6 : decode cJ0_isLatin1_aae02 6 = .ok (.aload_n 0, 1) := by decide +kernel
theorem dJ0_isLatin1_aae02_7 : decode cJ0_isLatin1_aae02 7 = .ok (.getfield 15, 3) := by decide +kernel
theorem dJ0_isLatin1_aae02_10 : decode cJ0_isLatin1_aae02 10 = .ok (.ifCond .ne 7, 3) := by decide +kernel
theorem dJ0_isLatin1_aae02_13 : decode cJ0_isLatin1_aae02 13 = .ok (.iconst 1, 1) := by decide +kernel
theorem dJ0_isLatin1_aae02_14 : decode cJ0_isLatin1_aae02 14 = .ok (.goto 4, 3) := by decide +kernel
theorem dJ0_isLatin1_aae02_18 : decode cJ0_isLatin1_aae02 18 = .ok (.ireturn, 1) := by decide +kernel
theorem dJ0_length_8abf5_0 : decode cJ0_length_8abf5 0 = .ok (.aload_n 0, 1) := by decide +kernel
theorem dJ0_length_8abf5_1 : decode cJ0_length_8abf5 1 = .ok (.getfield 9, 3) := by decide +kernel
theorem dJ0_length_8abf5_4 : decode cJ0_length_8abf5 4 = .ok (.arraylength, 1) := by decide +kernel
theorem dJ0_length_8abf5_5 : decode cJ0_length_8abf5 5 = .ok (.aload_n 0, 1) := by decide +kernel
theorem dJ0_length_8abf5_6 : decode cJ0_length_8abf5 6 = .ok (.invokevirtual 335, 3) := by decide +kernel
theorem dJ0_length_8abf5_9 : decode cJ0_length_8abf5 9 = .ok (.ishr, 1) := by decide +kernel
theorem dJ0_length_8abf5_10 : decode cJ0_length_8abf5 10 = .ok (.ireturn, 1) := by decide +kernel
theorem dJ1_charAt_3b067_0 : decode cJ1_charAt_3b067 0 = .ok (.iload_n 1, 1) := by decide +kernel
theorem dJ1_charAt_3b067_1 : decode cJ1_charAt_3b067 1 = .ok (.aload_n 0, 1) := by decide +kernel
theorem dJ1_charAt_3b067_2 : decode cJ1_charAt_3b067 2 = .ok (.arraylength, 1) := by decide +kernel
theorem dJ1_charAt_3b067_3 : decode cJ1_charAt_3b067 3 = .ok (.invokestatic 9, 3) := by decide +kernel
theorem dJ1_charAt_3b067_6 : decode cJ1_charAt_3b067 6 = .ok (.aload_n 0, 1) := by decide +kernel
theorem dJ1_charAt_3b067_7 : decode cJ1_charAt_3b067 7 = .ok (.iload_n 1, 1) := by decide +kernel
theorem dJ1_charAt_3b067_8 : decode cJ1_charAt_3b067 8 = .ok (.baload, 1) := by decide +kernel
theorem dJ1_charAt_3b067_9 : decode cJ1_charAt_3b067 9 = .ok (.sipush 255, 3) := by decide +kernel
theorem dJ1_charAt_3b067_12 : decode cJ1_charAt_3b067 12 = .ok (.iand, 1) := by decide +kernel
theorem dJ1_charAt_3b067_13 : decode cJ1_charAt_3b067 13 = .ok (.i2c, 1) := by decide +kernel
theorem dJ1_charAt_3b067_14 : decode cJ1_charAt_3b067 14 = .ok (.ireturn, 1) := by decide +kernel
theorem dJ3_checkIndex_8e157_0 : decode cJ3_checkIndex_8e157 0 = .ok (.iload_n 0, 1) := by decide +kernel
theorem dJ3_checkIndex_8e157_1 : decode cJ3_checkIndex_8e157 1 = .ok (.ifCond .lt 8, 3) := by decide +kernel
theorem dJ3_checkIndex_8e157_4 : decode cJ3_checkIndex_8e157 4 = .ok (.iload_n 0, 1) := by decide +kernel
theorem dJ3_checkIndex_8e157_5 : decode cJ3_checkIndex_8e157 5 = .ok (.iload_n 1, 1) := by decide +kernel
theorem dJ3_checkIndex_8e157_6 : decode cJ3_checkIndex_8e157 6 = .ok (.if_icmp .lt 10, 3) := by decide +kernel
theorem dJ3_checkIndex_8e157_16 : decode cJ3_checkIndex_8e157 16 = .ok (.iload_n 0, 1) := by decide +kernel
theorem dJ3_checkIndex_8e157_17 : decode cJ3_checkIndex_8e157 17 = .ok (.ireturn, 1) := by decide +kernel
theorem dX11_pack_0 : decode cX11_pack 0 = .ok (.iconst 0, 1) := by decide +kernel
theorem dX11_pack_1 : decode cX11_pack 1 = .ok (.istore_n 1, 1) := by decide +kernel
theorem dX11_pack_2 : decode cX11_pack 2 = .ok (.iconst 0, 1) := by decide +kernel
theorem dX11_pack_3 : decode cX11_pack 3 = .ok (.istore_n 2, 1) := by decide +kernel
theorem dX11_pack_4 : decode cX11_pack 4 = .ok (.iload_n 2, 1) := by decide +kernel
theorem dX11_pack_5 : decode cX11_pack 5 = .ok (.aload_n 0, 1) := by decide +kernel
theorem dX11_pack_6 : decode cX11_pack 6 = .ok (.invokevirtual 318, 3) := by decide +kernel
theorem dX11_pack_9 : decode cX11_pack 9 = .ok (.if_icmp .ge 31, 3) := by decide +kernel
theorem dX11_pack_12 : decode cX11_pack 12 = .ok (.iload_n 2, 1) := by decide +kernel
theorem dX11_pack_13 : decode cX11_pack 13 = .ok (.bipush 6, 2) := by decide +kernel
theorem dX11_pack_15 : decode cX11_pack 15 = .ok (.if_icmp .ge 25, 3) := by decide +kernel
theorem dX11_pack_18 : decode cX11_pack 18 = .ok (.iload_n 1, 1) := by decide +kernel
theorem dX11_pack_19 : decode cX11_pack 19 = .ok (.bipush 27, 2) := by decide +kernel
theorem dX11_pack_21 : decode cX11_pack 21 = .ok (.imul, 1) := by decide +kernel
theorem dX11_pack_22 : decode cX11_pack 22 = .ok (.aload_n 0, 1) := by decide +kernel
theorem dX11_pack_23 : decode cX11_pack 23 = .ok (.iload_n 2, 1) := by decide +kernel
theorem dX11_pack_24 : decode cX11_pack 24 = .ok (.invokevirtual 322, 3) := by decide +kernel
theorem dX11_pack_27 : decode cX11_pack 27 = .ok (.bipush 97, 2) := by decide +kernel
theorem dX11_pack_29 : decode cX11_pack 29 = .ok (.isub, 1) := by decide +kernel
theorem dX11_pack_30 : decode cX11_pack 30 = .ok (.iconst 1, 1) := by decide +kernel
theorem dX11_pack_31 : decode cX11_pack 31 = .ok (.iadd, 1) := by decide +kernel
theorem dX11_pack_32 : decode cX11_pack 32 = .ok (.iadd, 1) := by decide +kernel
theorem dX11_pack_33 : decode cX11_pack 33 = .ok (.istore_n 1, 1) := by decide +kernel
theorem dX11_pack_34 : decode cX11_pack 34 = .ok (.iinc 2 1, 3) := by decide +kernel
theorem dX11_pack_37 : decode cX11_pack 37 = .ok (.goto (-33), 3) := by decide +kernel
theorem dX11_pack_40 : decode cX11_pack 40 = .ok (.iload_n 1, 1) := by decide +kernel
theorem dX11_pack_41 : decode cX11_pack 41 = .ok (.ireturn, 1) := by decide +kernel
/-- a constant text: its object, its bytes, the statics that its methods read; nothing of it is written -/
def tStr (sa sv N : Nat) (f : Nat → Int32) (A : Nat → Prop) (U : State) (H : Heap) : Prop := va_Z "java/lang/String" "COMPACT_STRINGS" "Z" (.int 1) A U H ∧ va_Zq "jdk/internal/util/Preconditions" "SIOOBE_FORMATTER" "Ljava/util/function/BiFunction;" A U H ∧ va_O "java/lang/String" sa A U H ∧ va_OF "java/lang/String" "coder" "B" (.int 0) sa A U H ∧ va_OF "java/lang/String" "value" "[B" (.ref sv) sa A U H ∧ va_T .byte sv N (fun j => .int (f j)) A U H
theorem tStr.moved {sa sv N : Nat} {f : Nat → Int32} {A : Nat → Prop} {u U : State} {H : Heap} (hvm : u.vm.Alike U.vm) (h : tStr sa sv N f A u H) : tStr sa sv N f A U H :=
  ⟨va_Z.moved hvm h.1, va_Zq.moved hvm h.2.1, va_O.moved hvm h.2.2.1, va_OF.moved hvm h.2.2.2.1, va_OF.moved hvm h.2.2.2.2.1, va_T.moved hvm h.2.2.2.2.2⟩
theorem tStr.kept {sa sv N : Nat} {f : Nat → Int32} {A : Nat → Prop} {U : State} {H H1 : Heap} (h : tStr sa sv N f A U H) (hq : ∀ a : Nat, a < H.size → ¬ A a → H1[a]? = H[a]?) : tStr sa sv N f A U H1 :=
  ⟨h.1.kept hq, h.2.1.kept hq, h.2.2.1.kept hq, h.2.2.2.1.kept hq, h.2.2.2.2.1.kept hq, h.2.2.2.2.2.kept hq⟩
theorem tStr.narrow {sa sv N : Nat} {f : Nat → Int32} {A B : Nat → Prop} {U : State} {H : Heap} (h : tStr sa sv N f A U H) (hq : ∀ q, B q → A q) : tStr sa sv N f B U H :=
  ⟨h.1.narrow hq, h.2.1.narrow hq, h.2.2.1.narrow hq, h.2.2.2.1.narrow hq, h.2.2.2.2.1.narrow hq, h.2.2.2.2.2.narrow hq⟩
theorem tStr.recv {sa sv N : Nat} {f : Nat → Int32} {A : Nat → Prop} {U : State} {H : Heap} (h : tStr sa sv N f A U H) : ∃ cell : Cell, H[sa]? = some cell ∧ cell.vm.isStatics = false ∧ U.vm.findClass RJ0 = some cell.cls := by
  obtain ⟨cell, a1, a2, a3, -⟩ := h.2.2.1
  exact ⟨cell, a1, a2, a3⟩
theorem tz_blJ {sa sv N : Nat} {f : Nat → Int32} {A : Nat → Prop} {av : List Value} : FrameBlind (va_Pc av (fun U => tStr sa sv N f A U U.heap)) := fun a U g mk q => by
  obtain ⟨q0, qT⟩ := q
  exact ⟨q0, tStr.moved (u := U) (U := U.calling g mk a) (Vm.Alike.refl U.vm) qT⟩
theorem tz_preJ {sa sv N : Nat} {f : Nat → Int32} {A : Nat → Prop} {s : State} {H : Heap} {av : List Value} (h : tStr sa sv N f A s H) : ∀ U : State, U.heap = H → s.WarmedH U.vm → va_Pc av (fun U => tStr sa sv N f A U U.heap) av.toArray U := fun U hU hW => ⟨rfl, by show tStr sa sv N f A U U.heap; rw [hU]; exact h.moved hW.alike⟩
theorem tz_bl0 {av : List Value} : FrameBlind (va_Pc av (fun _ => True)) := fun a U g mk q => q
theorem tz_pre0 {s : State} {H : Heap} {av : List Value} : ∀ U : State, U.heap = H → s.WarmedH U.vm → va_Pc av (fun _ => True) av.toArray U := fun U _ _ => ⟨rfl, trivial⟩
set_option maxHeartbeats 4000000 in
set_option maxRecDepth 100000 in
theorem c_J0_coder (l : Launch) (sa sv N : Nat) (f : Nat → Int32) (A : Nat → Prop) : Met l yJ0_coder_7d493 (.code yJ0_coder_7d493 cJ0_coder_7d493 1 (some .byte) :: wsL_law) ({ frames := 0, cells := 0, slots := 0, locals := 0 }) (va_Pc [.ref sa] (fun U => tStr sa sv N f A U U.heap)) (vp_Si (fun r => r = 0)) 0 0 (fun _ => False) := by
  refine Met.ofW (cc := cJ0_coder_7d493) (maxL := 1) (ret := (some .byte)) (by decide) rfl ?_
  intro p e s m args below meth c s₁ B hml hv
  obtain ⟨rfl, hT⟩ := hv
  have hx := B.exec
  have hb := B.bytes
  have hr := B.returns
  have hts0 := atoms_spec (ws := (.code yJ0_coder_7d493 cJ0_coder_7d493 1 (some .byte) :: wsL_law)) B.pre
  have hts : ∀ w ∈ wsL_law, w.before _ s = true := fun w h => hts0 w (List.mem_cons_of_mem _ h)
  have hown : s.vm.findClass RJ0 = some m.cls := findClass_of_methodNamed B.named
  have hlocks := B.notSynchronized
  have hl := lv_entry ([.ref sa]) (n := 1) (Nat.le_of_ble_eq_true rfl)
  rw [lg_entry_eq]
  generalize (lg_sl ([.ref sa]) ++ List.replicate (1 - (lg_sl ([.ref sa])).length) Slot.unset).toArray = ls at hl ⊢
  have hl : lv_has ls 1 [(0, .ref sa)] := hl
  refine va_gets hx hb hT.1 (va_S.rf (A := A)) hown (hts (Cond.fieldLink RJ0 38 "java/lang/String" "COMPACT_STRINGS" "Z") qw_878) (fun _ h9 => h9) dJ0_coder_7d493_0 ?_
  refine lv_if_eq (tgt := 13) hx hb dJ0_coder_7d493_3 (by decide) (fun h9 => absurd h9 (by decide)) (fun _ => ?_)
  refine lv_aload_n hx hb dJ0_coder_7d493_6 rfl (lv_at hl 0 rfl) ?_
  refine vk_getf hx hb hT.2.2.2.1 (va_S.rf (A := A)) hown (hts (Cond.fieldLink RJ0 15 "java/lang/String" "coder" "B") qw_879) (fun _ h9 => h9) dJ0_coder_7d493_7 ?_
  refine lv_goto (tgt := 14) hx hb dJ0_coder_7d493_10 (by decide) ?_
  exact W.zret (v := 0) hx hb hr (by decide) (fun t ht hW => ⟨_, rfl, rfl, ht⟩) (fun _ h => nomatch h) dJ0_coder_7d493_14
set_option maxHeartbeats 4000000 in
set_option maxRecDepth 100000 in
theorem c_J0_isLatin1 (l : Launch) (sa sv N : Nat) (f : Nat → Int32) (A : Nat → Prop) : Met l yJ0_isLatin1_aae02 (.code yJ0_isLatin1_aae02 cJ0_isLatin1_aae02 1 (some .boolean) :: wsL_law) ({ frames := 0, cells := 0, slots := 0, locals := 0 }) (va_Pc [.ref sa] (fun U => tStr sa sv N f A U U.heap)) (vp_Si (fun r => r = 1)) 0 0 (fun _ => False) := by
  refine Met.ofW (cc := cJ0_isLatin1_aae02) (maxL := 1) (ret := (some .boolean)) (by decide) rfl ?_
  intro p e s m args below meth c s₁ B hml hv
  obtain ⟨rfl, hT⟩ := hv
  have hx := B.exec
  have hb := B.bytes
  have hr := B.returns
  have hts0 := atoms_spec (ws := (.code yJ0_isLatin1_aae02 cJ0_isLatin1_aae02 1 (some .boolean) :: wsL_law)) B.pre
  have hts : ∀ w ∈ wsL_law, w.before _ s = true := fun w h => hts0 w (List.mem_cons_of_mem _ h)
  have hown : s.vm.findClass RJ0 = some m.cls := findClass_of_methodNamed B.named
  have hlocks := B.notSynchronized
  have hl := lv_entry ([.ref sa]) (n := 1) (Nat.le_of_ble_eq_true rfl)
  rw [lg_entry_eq]
  generalize (lg_sl ([.ref sa]) ++ List.replicate (1 - (lg_sl ([.ref sa])).length) Slot.unset).toArray = ls at hl ⊢
  have hl : lv_has ls 1 [(0, .ref sa)] := hl
  refine va_gets hx hb hT.1 (va_S.rf (A := A)) hown (hts (Cond.fieldLink RJ0 38 "java/lang/String" "COMPACT_STRINGS" "Z") qw_878) (fun _ h9 => h9) dJ0_isLatin1_aae02_0 ?_
  refine lv_if_eq (tgt := 17) hx hb dJ0_isLatin1_aae02_3 (by decide) (fun h9 => absurd h9 (by decide)) (fun _ => ?_)
  refine lv_aload_n hx hb dJ0_isLatin1_aae02_6 rfl (lv_at hl 0 rfl) ?_
  refine vk_getf hx hb hT.2.2.2.1 (va_S.rf (A := A)) hown (hts (Cond.fieldLink RJ0 15 "java/lang/String" "coder" "B") qw_879) (fun _ h9 => h9) dJ0_isLatin1_aae02_7 ?_
  refine lv_if_ne (tgt := 17) hx hb dJ0_isLatin1_aae02_10 (by decide) (fun h9 => (h9 (by decide)).elim) (fun _ => ?_)
  refine lv_iconst (v := 1) hx hb dJ0_isLatin1_aae02_13 (by decide) ?_
  refine lv_goto (tgt := 18) hx hb dJ0_isLatin1_aae02_14 (by decide) ?_
  exact W.zret (v := 1) hx hb hr (by decide) (fun t ht hW => ⟨_, rfl, rfl, ht⟩) (fun _ h => nomatch h) dJ0_isLatin1_aae02_18
theorem tz_shr0 (x : Int32) : x >>> ((0 : Int32) &&& 31) = x := by
  have e : ((0 : Int32) &&& 31) = 0 := by decide
  rw [e]
  exact Int32.shiftRight_zero
set_option maxHeartbeats 4000000 in
set_option maxRecDepth 100000 in
theorem c_J0_length (l : Launch) (sa sv N : Nat) (f : Nat → Int32) (A : Nat → Prop) : Met l yJ0_length_8abf5 (.code yJ0_length_8abf5 cJ0_length_8abf5 1 (some .int) :: wsL_law) ({ frames := 1, cells := 0, slots := 0, locals := 20 }) (va_Pc [.ref sa] (fun U => tStr sa sv N f A U U.heap)) (vp_Si (fun r => r = nI N)) 0 0 (fun _ => False) := by
  refine Met.ofW (cc := cJ0_length_8abf5) (maxL := 1) (ret := (some .int)) (by decide) rfl ?_
  intro p e s m args below meth c s₁ B hml hv
  obtain ⟨rfl, hT⟩ := hv
  have hx := B.exec
  have hb := B.bytes
  have hr := B.returns
  have hts0 := atoms_spec (ws := (.code yJ0_length_8abf5 cJ0_length_8abf5 1 (some .int) :: wsL_law)) B.pre
  have hts : ∀ w ∈ wsL_law, w.before _ s = true := fun w h => hts0 w (List.mem_cons_of_mem _ h)
  have hown : s.vm.findClass RJ0 = some m.cls := findClass_of_methodNamed B.named
  have hlocks := B.notSynchronized
  have hl := lv_entry ([.ref sa]) (n := 1) (Nat.le_of_ble_eq_true rfl)
  rw [lg_entry_eq]
  generalize (lg_sl ([.ref sa]) ++ List.replicate (1 - (lg_sl ([.ref sa])).length) Slot.unset).toArray = ls at hl ⊢
  have hl : lv_has ls 1 [(0, .ref sa)] := hl
  refine lv_aload_n hx hb dJ0_length_8abf5_0 rfl (lv_at hl 0 rfl) ?_
  refine vk_getf hx hb hT.2.2.2.2.1 (va_S.rf (A := A)) hown (hts (Cond.fieldLink RJ0 9 "java/lang/String" "value" "[B") qw_880) (fun _ h9 => h9) dJ0_length_8abf5_1 ?_
  refine va_tlen hx hb hT.2.2.2.2.2 (va_S.rf (A := A)) (v := nI N) rfl dJ0_length_8abf5_4 ?_
  refine lv_aload_n hx hb dJ0_length_8abf5_5 rfl (lv_at hl 0 rfl) ?_
  refine vp_callSi (va_Run.run (va_runV (As := []) (rest := [.int (nI N)]) ⟨hx, hb, hml, hown, hts⟩ (c_J0_coder l sa sv N f A) (cwV 0 hts (tz_gV qw_881 qw_882 qw_883 qw_884 qw_885) rfl rfl rfl (by decide +kernel) ⟨Nat.le_of_ble_eq_true rfl, Nat.le_of_ble_eq_true rfl⟩) ⟨tz_blJ, hT.recv, tz_preJ hT⟩ rfl rfl hl.1 rfl (lv_room (Nat.le_of_ble_eq_true rfl)) dJ0_length_8abf5_6 ⟨Nat.le_of_ble_eq_true rfl, Nat.le_of_ble_eq_true rfl⟩)) (fun r_117714 hw => ?_)
  subst hw
  refine lv_ishr hx hb dJ0_length_8abf5_9 ?_
  refine tz_i (y := nI N) (tz_shr0 _) ?_
  exact W.iret (v := nI N) hx hb hr (fun t ht hW => ⟨_, rfl, rfl, ht⟩) (fun _ h => nomatch h) dJ0_length_8abf5_10
set_option maxHeartbeats 4000000 in
set_option maxRecDepth 100000 in
theorem c_J3_checkIndex_n (l : Launch) (j N : Nat) (hj : j < N) (hN : N < 2 ^ 31) : Met l yJ3_checkIndex_8e157 (.code yJ3_checkIndex_8e157 cJ3_checkIndex_8e157 3 (some .int) :: wsL_law) ({ frames := 0, cells := 0, slots := 0, locals := 0 }) (va_Pc [.int (nI j), .int (nI N), .null] (fun _ => True)) (vp_Si (fun r => r = nI j)) 0 0 (fun _ => False) := by
  refine Met.ofW (cc := cJ3_checkIndex_8e157) (maxL := 3) (ret := (some .int)) (by decide) rfl ?_
  intro p e s m args below meth c s₁ B hml hv
  obtain ⟨rfl, hT⟩ := hv
  have hx := B.exec
  have hb := B.bytes
  have hr := B.returns
  have hts0 := atoms_spec (ws := (.code yJ3_checkIndex_8e157 cJ3_checkIndex_8e157 3 (some .int) :: wsL_law)) B.pre
  have hts : ∀ w ∈ wsL_law, w.before _ s = true := fun w h => hts0 w (List.mem_cons_of_mem _ h)
  have hown : s.vm.findClass RJ3 = some m.cls := findClass_of_methodNamed B.named
  have hlocks := B.notSynchronized
  have hl := lv_entry ([.int (nI j), .int (nI N), .null]) (n := 3) (Nat.le_of_ble_eq_true rfl)
  rw [lg_entry_eq]
  generalize (lg_sl ([.int (nI j), .int (nI N), .null]) ++ List.replicate (3 - (lg_sl ([.int (nI j), .int (nI N), .null])).length) Slot.unset).toArray = ls at hl ⊢
  have hl : lv_has ls 3 [(0, .int (nI j)), (1, .int (nI N)), (2, .null)] := hl
  refine lv_iload_n hx hb dJ3_checkIndex_8e157_0 rfl (lv_at hl 0 rfl) ?_
  refine lv_if_lt (tgt := 9) hx hb dJ3_checkIndex_8e157_1 (by decide) (fun h9 => absurd h9 (nI_nlt (Nat.zero_le j) (by omega) : ¬ nI j < nI 0)) (fun _ => ?_)
  refine lv_iload_n hx hb dJ3_checkIndex_8e157_4 rfl (lv_at hl 0 rfl) ?_
  refine lv_iload_n hx hb dJ3_checkIndex_8e157_5 rfl (lv_at hl 1 rfl) ?_
  refine lv_icmp_lt (tgt := 16) hx hb dJ3_checkIndex_8e157_6 (by decide) (fun _ => ?_) (fun h9 => (h9 (nI_lt hj (by omega))).elim)
  refine lv_iload_n hx hb dJ3_checkIndex_8e157_16 rfl (lv_at hl 0 rfl) ?_
  exact W.iret (v := nI j) hx hb hr (fun t ht hW => ⟨_, rfl, rfl, ht⟩) (fun _ h => nomatch h) dJ3_checkIndex_8e157_17
set_option maxHeartbeats 4000000 in
set_option maxRecDepth 100000 in
theorem c_J3_checkIndex_r (l : Launch) (j N : Nat) (t : Nat) (hj : j < N) (hN : N < 2 ^ 31) : Met l yJ3_checkIndex_8e157 (.code yJ3_checkIndex_8e157 cJ3_checkIndex_8e157 3 (some .int) :: wsL_law) ({ frames := 0, cells := 0, slots := 0, locals := 0 }) (va_Pc [.int (nI j), .int (nI N), .ref t] (fun _ => True)) (vp_Si (fun r => r = nI j)) 0 0 (fun _ => False) := by
  refine Met.ofW (cc := cJ3_checkIndex_8e157) (maxL := 3) (ret := (some .int)) (by decide) rfl ?_
  intro p e s m args below meth c s₁ B hml hv
  obtain ⟨rfl, hT⟩ := hv
  have hx := B.exec
  have hb := B.bytes
  have hr := B.returns
  have hts0 := atoms_spec (ws := (.code yJ3_checkIndex_8e157 cJ3_checkIndex_8e157 3 (some .int) :: wsL_law)) B.pre
  have hts : ∀ w ∈ wsL_law, w.before _ s = true := fun w h => hts0 w (List.mem_cons_of_mem _ h)
  have hown : s.vm.findClass RJ3 = some m.cls := findClass_of_methodNamed B.named
  have hlocks := B.notSynchronized
  have hl := lv_entry ([.int (nI j), .int (nI N), .ref t]) (n := 3) (Nat.le_of_ble_eq_true rfl)
  rw [lg_entry_eq]
  generalize (lg_sl ([.int (nI j), .int (nI N), .ref t]) ++ List.replicate (3 - (lg_sl ([.int (nI j), .int (nI N), .ref t])).length) Slot.unset).toArray = ls at hl ⊢
  have hl : lv_has ls 3 [(0, .int (nI j)), (1, .int (nI N)), (2, .ref t)] := hl
  refine lv_iload_n hx hb dJ3_checkIndex_8e157_0 rfl (lv_at hl 0 rfl) ?_
  refine lv_if_lt (tgt := 9) hx hb dJ3_checkIndex_8e157_1 (by decide) (fun h9 => absurd h9 (nI_nlt (Nat.zero_le j) (by omega) : ¬ nI j < nI 0)) (fun _ => ?_)
  refine lv_iload_n hx hb dJ3_checkIndex_8e157_4 rfl (lv_at hl 0 rfl) ?_
  refine lv_iload_n hx hb dJ3_checkIndex_8e157_5 rfl (lv_at hl 1 rfl) ?_
  refine lv_icmp_lt (tgt := 16) hx hb dJ3_checkIndex_8e157_6 (by decide) (fun _ => ?_) (fun h9 => (h9 (nI_lt hj (by omega))).elim)
  refine lv_iload_n hx hb dJ3_checkIndex_8e157_16 rfl (lv_at hl 0 rfl) ?_
  exact W.iret (v := nI j) hx hb hr (fun t ht hW => ⟨_, rfl, rfl, ht⟩) (fun _ h => nomatch h) dJ3_checkIndex_8e157_17
set_option maxHeartbeats 4000000 in
set_option maxRecDepth 100000 in
theorem c_J0_checkIndex (l : Launch) (sa sv N : Nat) (f : Nat → Int32) (A : Nat → Prop) (j : Nat) (hj : j < N) (hN : N < 2 ^ 31) : Met l yJ0_checkIndex_df160 (.code yJ0_checkIndex_df160 cJ0_checkIndex_df160 2 none :: wsL_law) ({ frames := 1, cells := 0, slots := 0, locals := 22 }) (va_Pc [.int (nI j), .int (nI N)] (fun U => tStr sa sv N f A U U.heap)) (va_Sv (fun _ => True)) 0 0 (fun _ => False) := by
  refine Met.ofW (cc := cJ0_checkIndex_df160) (maxL := 2) (ret := none) (by decide) rfl ?_
  intro p e s m args below meth c s₁ B hml hv
  obtain ⟨rfl, hT⟩ := hv
  have hx := B.exec
  have hb := B.bytes
  have hr := B.returns
  have hts0 := atoms_spec (ws := (.code yJ0_checkIndex_df160 cJ0_checkIndex_df160 2 none :: wsL_law)) B.pre
  have hts : ∀ w ∈ wsL_law, w.before _ s = true := fun w h => hts0 w (List.mem_cons_of_mem _ h)
  have hown : s.vm.findClass RJ0 = some m.cls := findClass_of_methodNamed B.named
  have hlocks := B.notSynchronized
  have hl := lv_entry ([.int (nI j), .int (nI N)]) (n := 2) (Nat.le_of_ble_eq_true rfl)
  rw [lg_entry_eq]
  generalize (lg_sl ([.int (nI j), .int (nI N)]) ++ List.replicate (2 - (lg_sl ([.int (nI j), .int (nI N)])).length) Slot.unset).toArray = ls at hl ⊢
  have hl : lv_has ls 2 [(0, .int (nI j)), (1, .int (nI N))] := hl
  refine lv_iload_n hx hb dJ0_checkIndex_df160_0 rfl (lv_at hl 0 rfl) ?_
  refine lv_iload_n hx hb dJ0_checkIndex_df160_1 rfl (lv_at hl 1 rfl) ?_
  rcases hT.2.1 with hq | ⟨t, hq⟩
  · refine va_gets hx hb hq (va_S.rf (A := A)) hown (hts (Cond.fieldLink RJ0 1053 "jdk/internal/util/Preconditions" "SIOOBE_FORMATTER" "Ljava/util/function/BiFunction;") qw_886) (fun _ h9 => h9) dJ0_checkIndex_df160_2 ?_
    refine vp_callSi (va_Run.run (va_runS (As := [.int (nI j), .int (nI N), .null]) (rest := []) ⟨hx, hb, hml, hown, hts⟩ (c_J3_checkIndex_n l j N hj hN) (va_cwS 3 hts (tz_gS qw_887 qw_888 qw_889 qw_890) rfl rfl rfl (by decide +kernel) ⟨Nat.le_of_ble_eq_true rfl, Nat.le_of_ble_eq_true rfl⟩) ⟨tz_bl0, tz_pre0⟩ rfl rfl hl.1 rfl (lv_room (Nat.le_of_ble_eq_true rfl)) dJ0_checkIndex_df160_5 ⟨Nat.le_of_ble_eq_true rfl, Nat.le_of_ble_eq_true rfl⟩)) (fun r_117715 hw => ?_)
    refine lv_pop hx hb dJ0_checkIndex_df160_8 rfl ?_
    exact W.vret hx hb hr (fun t ht hW => ⟨rfl, trivial, ht⟩) (fun _ h => nomatch h) dJ0_checkIndex_df160_9
  · refine va_gets hx hb hq (va_S.rf (A := A)) hown (hts (Cond.fieldLink RJ0 1053 "jdk/internal/util/Preconditions" "SIOOBE_FORMATTER" "Ljava/util/function/BiFunction;") qw_886) (fun _ h9 => h9) dJ0_checkIndex_df160_2 ?_
    refine vp_callSi (va_Run.run (va_runS (As := [.int (nI j), .int (nI N), .ref t]) (rest := []) ⟨hx, hb, hml, hown, hts⟩ (c_J3_checkIndex_r l j N t hj hN) (va_cwS 3 hts (tz_gS qw_887 qw_888 qw_889 qw_890) rfl rfl rfl (by decide +kernel) ⟨Nat.le_of_ble_eq_true rfl, Nat.le_of_ble_eq_true rfl⟩) ⟨tz_bl0, tz_pre0⟩ rfl rfl hl.1 rfl (lv_room (Nat.le_of_ble_eq_true rfl)) dJ0_checkIndex_df160_5 ⟨Nat.le_of_ble_eq_true rfl, Nat.le_of_ble_eq_true rfl⟩)) (fun r_117716 hw => ?_)
    refine lv_pop hx hb dJ0_checkIndex_df160_8 rfl ?_
    exact W.vret hx hb hr (fun t ht hW => ⟨rfl, trivial, ht⟩) (fun _ h => nomatch h) dJ0_checkIndex_df160_9
set_option maxHeartbeats 4000000 in
set_option maxRecDepth 100000 in
theorem c_J1_charAt (l : Launch) (sa sv N : Nat) (f : Nat → Int32) (A : Nat → Prop) (j : Nat) (hj : j < N) (hN : N < 2 ^ 31) : Met l yJ1_charAt_3b067 (.code yJ1_charAt_3b067 cJ1_charAt_3b067 2 (some .char) :: wsL_law) ({ frames := 2, cells := 0, slots := 0, locals := 43 }) (va_Pc [.ref sv, .int (nI j)] (fun U => tStr sa sv N f A U U.heap)) (vp_Si (fun r => narrow .char (.int r) = .int r ∧ r = chr8 (f (nI j).toNatClampNeg))) 0 0 (fun _ => False) := by
  refine Met.ofW (cc := cJ1_charAt_3b067) (maxL := 2) (ret := (some .char)) (by decide) rfl ?_
  intro p e s m args below meth c s₁ B hml hv
  obtain ⟨rfl, hT⟩ := hv
  have hx := B.exec
  have hb := B.bytes
  have hr := B.returns
  have hts0 := atoms_spec (ws := (.code yJ1_charAt_3b067 cJ1_charAt_3b067 2 (some .char) :: wsL_law)) B.pre
  have hts : ∀ w ∈ wsL_law, w.before _ s = true := fun w h => hts0 w (List.mem_cons_of_mem _ h)
  have hown : s.vm.findClass RJ1 = some m.cls := findClass_of_methodNamed B.named
  have hlocks := B.notSynchronized
  have hl := lv_entry ([.ref sv, .int (nI j)]) (n := 2) (Nat.le_of_ble_eq_true rfl)
  rw [lg_entry_eq]
  generalize (lg_sl ([.ref sv, .int (nI j)]) ++ List.replicate (2 - (lg_sl ([.ref sv, .int (nI j)])).length) Slot.unset).toArray = ls at hl ⊢
  have hl : lv_has ls 2 [(0, .ref sv), (1, .int (nI j))] := hl
  refine lv_iload_n hx hb dJ1_charAt_3b067_0 rfl (lv_at hl 1 rfl) ?_
  refine lv_aload_n hx hb dJ1_charAt_3b067_1 rfl (lv_at hl 0 rfl) ?_
  refine va_tlen hx hb hT.2.2.2.2.2 (va_S.rf (A := A)) (v := nI N) rfl dJ1_charAt_3b067_2 ?_
  refine va_csv (va_Run.run (va_runS (As := [.int (nI j), .int (nI N)]) (rest := []) ⟨hx, hb, hml, hown, hts⟩ (c_J0_checkIndex l sa sv N f A j hj hN) (va_cwS 2 hts (tz_gS qw_891 qw_892 qw_884 qw_893) rfl rfl rfl (by decide +kernel) ⟨Nat.le_of_ble_eq_true rfl, Nat.le_of_ble_eq_true rfl⟩) ⟨tz_blJ, tz_preJ hT⟩ rfl rfl hl.1 rfl (lv_room (Nat.le_of_ble_eq_true rfl)) dJ1_charAt_3b067_3 ⟨Nat.le_of_ble_eq_true rfl, Nat.le_of_ble_eq_true rfl⟩)) (fun _ => ?_)
  refine lv_aload_n hx hb dJ1_charAt_3b067_6 rfl (lv_at hl 0 rfl) ?_
  refine lv_iload_n hx hb dJ1_charAt_3b067_7 rfl (lv_at hl 1 rfl) ?_
  refine va_tb hx hb hT.2.2.2.2.2 (va_S.rf (A := A)) (vp_in_nI hj hN) rfl dJ1_charAt_3b067_8 ?_
  refine lv_sipush (v := 255) hx hb dJ1_charAt_3b067_9 (by decide) ?_
  refine lv_iand hx hb dJ1_charAt_3b067_12 ?_
  refine lv_i2c hx hb dJ1_charAt_3b067_13 rfl ?_
  exact W.zret (v := _) hx hb hr (pk_nc _) (fun t ht hW => ⟨_, rfl, ⟨pk_nc _, rfl⟩, ht⟩) (fun _ h => nomatch h) dJ1_charAt_3b067_14
-- the answers of charAt are chars
set_option maxHeartbeats 4000000 in
set_option maxRecDepth 100000 in
theorem c_J0_charAt (l : Launch) (sa sv N : Nat) (f : Nat → Int32) (A : Nat → Prop) (j : Nat) (hj : j < N) (hN : N < 2 ^ 31) : Met l yJ0_charAt_5068e (.code yJ0_charAt_5068e cJ0_charAt_5068e 2 (some .char) :: wsL_law) ({ frames := 3, cells := 0, slots := 0, locals := 64 }) (va_Pc [.ref sa, .int (nI j)] (fun U => tStr sa sv N f A U U.heap)) (vp_Si (fun r => r = chr8 (f (nI j).toNatClampNeg))) 0 0 (fun _ => False) := by
  refine Met.ofW (cc := cJ0_charAt_5068e) (maxL := 2) (ret := (some .char)) (by decide) rfl ?_
  intro p e s m args below meth c s₁ B hml hv
  obtain ⟨rfl, hT⟩ := hv
  have hx := B.exec
  have hb := B.bytes
  have hr := B.returns
  have hts0 := atoms_spec (ws := (.code yJ0_charAt_5068e cJ0_charAt_5068e 2 (some .char) :: wsL_law)) B.pre
  have hts : ∀ w ∈ wsL_law, w.before _ s = true := fun w h => hts0 w (List.mem_cons_of_mem _ h)
  have hown : s.vm.findClass RJ0 = some m.cls := findClass_of_methodNamed B.named
  have hlocks := B.notSynchronized
  have hl := lv_entry ([.ref sa, .int (nI j)]) (n := 2) (Nat.le_of_ble_eq_true rfl)
  rw [lg_entry_eq]
  generalize (lg_sl ([.ref sa, .int (nI j)]) ++ List.replicate (2 - (lg_sl ([.ref sa, .int (nI j)])).length) Slot.unset).toArray = ls at hl ⊢
  have hl : lv_has ls 2 [(0, .ref sa), (1, .int (nI j))] := hl
  refine lv_aload_n hx hb dJ0_charAt_5068e_0 rfl (lv_at hl 0 rfl) ?_
  refine vp_callSi (va_Run.run (va_runV (As := []) (rest := []) ⟨hx, hb, hml, hown, hts⟩ (c_J0_isLatin1 l sa sv N f A) (cwV 0 hts (tz_gV qw_894 qw_895 qw_896 qw_884 qw_897) rfl rfl rfl (by decide +kernel) ⟨Nat.le_of_ble_eq_true rfl, Nat.le_of_ble_eq_true rfl⟩) ⟨tz_blJ, hT.recv, tz_preJ hT⟩ rfl rfl hl.1 rfl (lv_room (Nat.le_of_ble_eq_true rfl)) dJ0_charAt_5068e_1 ⟨Nat.le_of_ble_eq_true rfl, Nat.le_of_ble_eq_true rfl⟩)) (fun r_117717 hw => ?_)
  subst hw
  refine lv_if_eq (tgt := 16) hx hb dJ0_charAt_5068e_4 (by decide) (fun h9 => absurd h9 (by decide)) (fun _ => ?_)
  refine lv_aload_n hx hb dJ0_charAt_5068e_7 rfl (lv_at hl 0 rfl) ?_
  refine vk_getf hx hb hT.2.2.2.2.1 (va_S.rf (A := A)) hown (hts (Cond.fieldLink RJ0 9 "java/lang/String" "value" "[B") qw_880) (fun _ h9 => h9) dJ0_charAt_5068e_8 ?_
  refine lv_iload_n hx hb dJ0_charAt_5068e_11 rfl (lv_at hl 1 rfl) ?_
  refine vp_callSi (va_Run.run (va_runS (As := [.ref sv, .int (nI j)]) (rest := []) ⟨hx, hb, hml, hown, hts⟩ (c_J1_charAt l sa sv N f A j hj hN) (va_cwS 2 hts (tz_gS qw_898 qw_899 qw_900 qw_901) rfl rfl rfl (by decide +kernel) ⟨Nat.le_of_ble_eq_true rfl, Nat.le_of_ble_eq_true rfl⟩) ⟨tz_blJ, tz_preJ hT⟩ rfl rfl hl.1 rfl (lv_room (Nat.le_of_ble_eq_true rfl)) dJ0_charAt_5068e_12 ⟨Nat.le_of_ble_eq_true rfl, Nat.le_of_ble_eq_true rfl⟩)) (fun r_117718 hw => ?_)
  exact W.zret (v := r_117718) hx hb hr (hw.1) (fun t ht hW => ⟨_, rfl, hw.2, ht⟩) (fun _ h => nomatch h) dJ0_charAt_5068e_15
set_option maxHeartbeats 4000000 in
set_option maxRecDepth 100000 in
theorem c_X11_pack_3 (l : Launch) (sa sv : Nat) (f : Nat → Int32) (A : Nat → Prop) : Met l yX11_pack (.code yX11_pack cX11_pack 3 (some .int) :: wsL_law) ({ frames := 4, cells := 0, slots := 0, locals := 85 }) (va_Pc [.ref sa] (fun U => tStr sa sv 3 f A U U.heap)) (vp_Si (fun r => r = pk32 (fun j => chr8 (f j)) 3)) 0 0 (fun _ => False) := by
  refine Met.ofW (cc := cX11_pack) (maxL := 3) (ret := (some .int)) (by decide) rfl ?_
  intro p e s m args below meth c s₁ B hml hv
  obtain ⟨rfl, hT⟩ := hv
  have hx := B.exec
  have hb := B.bytes
  have hr := B.returns
  have hts0 := atoms_spec (ws := (.code yX11_pack cX11_pack 3 (some .int) :: wsL_law)) B.pre
  have hts : ∀ w ∈ wsL_law, w.before _ s = true := fun w h => hts0 w (List.mem_cons_of_mem _ h)
  have hown : s.vm.findClass RX11 = some m.cls := findClass_of_methodNamed B.named
  have hlocks := B.notSynchronized
  have hl := lv_entry ([.ref sa]) (n := 3) (Nat.le_of_ble_eq_true rfl)
  rw [lg_entry_eq]
  generalize (lg_sl ([.ref sa]) ++ List.replicate (3 - (lg_sl ([.ref sa])).length) Slot.unset).toArray = ls at hl ⊢
  have hl : lv_has ls 3 [(0, .ref sa)] := hl
  refine lv_iconst (v := 0) hx hb dX11_pack_0 (by decide) ?_
  refine lv_istore_n (lv' := [(1, .int 0), (0, .ref sa)]) hx hb dX11_pack_1 rfl hl (by decide) rfl (fun ls hl => ?_)
  refine lv_iconst (v := 0) hx hb dX11_pack_2 (by decide) ?_
  refine lv_istore_n (lv' := [(2, .int 0), (1, .int 0), (0, .ref sa)]) hx hb dX11_pack_3 rfl hl (by decide) rfl (fun ls hl => ?_)
  refine lv_iload_n hx hb dX11_pack_4 rfl (lv_at hl 0 rfl) ?_
  refine lv_aload_n hx hb dX11_pack_5 rfl (lv_at hl 2 rfl) ?_
  refine vp_callSi (va_Run.run (va_runV (As := []) (rest := [.int 0]) ⟨hx, hb, hml, hown, hts⟩ (c_J0_length l sa sv 3 f A) (cwV 0 hts (tz_gV qw_902 qw_903 qw_904 qw_884 qw_905) rfl rfl rfl (by decide +kernel) ⟨Nat.le_of_ble_eq_true rfl, Nat.le_of_ble_eq_true rfl⟩) ⟨tz_blJ, hT.recv, tz_preJ hT⟩ rfl rfl hl.1 rfl (lv_room (Nat.le_of_ble_eq_true rfl)) dX11_pack_6 ⟨Nat.le_of_ble_eq_true rfl, Nat.le_of_ble_eq_true rfl⟩)) (fun r_117719 hw => ?_)
  subst hw
  refine tz_i (y := 3) (by decide) ?_
  refine lv_icmp_ge (tgt := 40) hx hb dX11_pack_9 (by decide) (fun h9 => absurd h9 (by decide)) (fun _ => ?_)
  refine lv_iload_n hx hb dX11_pack_12 rfl (lv_at hl 0 rfl) ?_
  refine lv_bipush (v := 6) hx hb dX11_pack_13 (by decide) ?_
  refine lv_icmp_ge (tgt := 40) hx hb dX11_pack_15 (by decide) (fun h9 => absurd h9 (by decide)) (fun _ => ?_)
  refine lv_iload_n hx hb dX11_pack_18 rfl (lv_at hl 1 rfl) ?_
  refine lv_bipush (v := 27) hx hb dX11_pack_19 (by decide) ?_
  refine lv_imul hx hb dX11_pack_21 ?_
  refine tz_i (y := 0) (by decide +kernel) ?_
  refine lv_aload_n hx hb dX11_pack_22 rfl (lv_at hl 2 rfl) ?_
  refine lv_iload_n hx hb dX11_pack_23 rfl (lv_at hl 0 rfl) ?_
  refine tz_i (y := (nI 0)) (by decide) ?_
  refine vp_callSi (va_Run.run (va_runV (As := [.int (nI 0)]) (rest := [.int 0]) ⟨hx, hb, hml, hown, hts⟩ (c_J0_charAt l sa sv 3 f A 0 (by decide) (by decide)) (cwV 1 hts (tz_gV qw_906 qw_907 qw_908 qw_884 qw_909) rfl rfl rfl (by decide +kernel) ⟨Nat.le_of_ble_eq_true rfl, Nat.le_of_ble_eq_true rfl⟩) ⟨tz_blJ, hT.recv, tz_preJ hT⟩ rfl rfl hl.1 rfl (lv_room (Nat.le_of_ble_eq_true rfl)) dX11_pack_24 ⟨Nat.le_of_ble_eq_true rfl, Nat.le_of_ble_eq_true rfl⟩)) (fun r_117720 hw => ?_)
  have hc_0 := hw
  refine lv_bipush (v := 97) hx hb dX11_pack_27 (by decide) ?_
  refine lv_isub hx hb dX11_pack_29 ?_
  refine lv_iconst (v := 1) hx hb dX11_pack_30 (by decide) ?_
  refine lv_iadd hx hb dX11_pack_31 ?_
  refine lv_iadd hx hb dX11_pack_32 ?_
  refine lv_topi (fun v_117721 v_117721_e => ?_)
  refine lv_istore_n (lv' := [(1, .int v_117721), (2, .int 0), (0, .ref sa)]) hx hb dX11_pack_33 rfl hl (by decide) rfl (fun ls hl => ?_)
  refine lv_iinc (v := 1) (lv' := [(2, .int 1), (1, .int v_117721), (0, .ref sa)]) hx hb dX11_pack_34 hl (k := 1) rfl (by decide) (by decide) rfl (fun ls hl => ?_)
  refine lv_goto (tgt := 4) hx hb dX11_pack_37 (by decide) ?_
  refine lv_iload_n hx hb dX11_pack_4 rfl (lv_at hl 0 rfl) ?_
  refine lv_aload_n hx hb dX11_pack_5 rfl (lv_at hl 2 rfl) ?_
  refine vp_callSi (va_Run.run (va_runV (As := []) (rest := [.int 1]) ⟨hx, hb, hml, hown, hts⟩ (c_J0_length l sa sv 3 f A) (cwV 0 hts (tz_gV qw_902 qw_903 qw_904 qw_884 qw_905) rfl rfl rfl (by decide +kernel) ⟨Nat.le_of_ble_eq_true rfl, Nat.le_of_ble_eq_true rfl⟩) ⟨tz_blJ, hT.recv, tz_preJ hT⟩ rfl rfl hl.1 rfl (lv_room (Nat.le_of_ble_eq_true rfl)) dX11_pack_6 ⟨Nat.le_of_ble_eq_true rfl, Nat.le_of_ble_eq_true rfl⟩)) (fun r_117722 hw => ?_)
  subst hw
  refine tz_i (y := 3) (by decide) ?_
  refine lv_icmp_ge (tgt := 40) hx hb dX11_pack_9 (by decide) (fun h9 => absurd h9 (by decide)) (fun _ => ?_)
  refine lv_iload_n hx hb dX11_pack_12 rfl (lv_at hl 0 rfl) ?_
  refine lv_bipush (v := 6) hx hb dX11_pack_13 (by decide) ?_
  refine lv_icmp_ge (tgt := 40) hx hb dX11_pack_15 (by decide) (fun h9 => absurd h9 (by decide)) (fun _ => ?_)
  refine lv_iload_n hx hb dX11_pack_18 rfl (lv_at hl 1 rfl) ?_
  refine lv_bipush (v := 27) hx hb dX11_pack_19 (by decide) ?_
  refine lv_imul hx hb dX11_pack_21 ?_
  refine lv_aload_n hx hb dX11_pack_22 rfl (lv_at hl 2 rfl) ?_
  refine lv_iload_n hx hb dX11_pack_23 rfl (lv_at hl 0 rfl) ?_
  refine tz_i (y := (nI 1)) (by decide) ?_
  refine vp_callSi (va_Run.run (va_runV (As := [.int (nI 1)]) (rest := [.int (v_117721 * 27)]) ⟨hx, hb, hml, hown, hts⟩ (c_J0_charAt l sa sv 3 f A 1 (by decide) (by decide)) (cwV 1 hts (tz_gV qw_906 qw_907 qw_908 qw_884 qw_909) rfl rfl rfl (by decide +kernel) ⟨Nat.le_of_ble_eq_true rfl, Nat.le_of_ble_eq_true rfl⟩) ⟨tz_blJ, hT.recv, tz_preJ hT⟩ rfl rfl hl.1 rfl (lv_room (Nat.le_of_ble_eq_true rfl)) dX11_pack_24 ⟨Nat.le_of_ble_eq_true rfl, Nat.le_of_ble_eq_true rfl⟩)) (fun r_117723 hw => ?_)
  have hc_1 := hw
  refine lv_bipush (v := 97) hx hb dX11_pack_27 (by decide) ?_
  refine lv_isub hx hb dX11_pack_29 ?_
  refine lv_iconst (v := 1) hx hb dX11_pack_30 (by decide) ?_
  refine lv_iadd hx hb dX11_pack_31 ?_
  refine lv_iadd hx hb dX11_pack_32 ?_
  refine lv_topi (fun v_117724 v_117724_e => ?_)
  refine lv_istore_n (lv' := [(1, .int v_117724), (2, .int 1), (0, .ref sa)]) hx hb dX11_pack_33 rfl hl (by decide) rfl (fun ls hl => ?_)
  refine lv_iinc (v := 2) (lv' := [(2, .int 2), (1, .int v_117724), (0, .ref sa)]) hx hb dX11_pack_34 hl (k := 1) rfl (by decide) (by decide) rfl (fun ls hl => ?_)
  refine lv_goto (tgt := 4) hx hb dX11_pack_37 (by decide) ?_
  refine lv_iload_n hx hb dX11_pack_4 rfl (lv_at hl 0 rfl) ?_
  refine lv_aload_n hx hb dX11_pack_5 rfl (lv_at hl 2 rfl) ?_
  refine vp_callSi (va_Run.run (va_runV (As := []) (rest := [.int 2]) ⟨hx, hb, hml, hown, hts⟩ (c_J0_length l sa sv 3 f A) (cwV 0 hts (tz_gV qw_902 qw_903 qw_904 qw_884 qw_905) rfl rfl rfl (by decide +kernel) ⟨Nat.le_of_ble_eq_true rfl, Nat.le_of_ble_eq_true rfl⟩) ⟨tz_blJ, hT.recv, tz_preJ hT⟩ rfl rfl hl.1 rfl (lv_room (Nat.le_of_ble_eq_true rfl)) dX11_pack_6 ⟨Nat.le_of_ble_eq_true rfl, Nat.le_of_ble_eq_true rfl⟩)) (fun r_117725 hw => ?_)
  subst hw
  refine tz_i (y := 3) (by decide) ?_
  refine lv_icmp_ge (tgt := 40) hx hb dX11_pack_9 (by decide) (fun h9 => absurd h9 (by decide)) (fun _ => ?_)
  refine lv_iload_n hx hb dX11_pack_12 rfl (lv_at hl 0 rfl) ?_
  refine lv_bipush (v := 6) hx hb dX11_pack_13 (by decide) ?_
  refine lv_icmp_ge (tgt := 40) hx hb dX11_pack_15 (by decide) (fun h9 => absurd h9 (by decide)) (fun _ => ?_)
  refine lv_iload_n hx hb dX11_pack_18 rfl (lv_at hl 1 rfl) ?_
  refine lv_bipush (v := 27) hx hb dX11_pack_19 (by decide) ?_
  refine lv_imul hx hb dX11_pack_21 ?_
  refine lv_aload_n hx hb dX11_pack_22 rfl (lv_at hl 2 rfl) ?_
  refine lv_iload_n hx hb dX11_pack_23 rfl (lv_at hl 0 rfl) ?_
  refine tz_i (y := (nI 2)) (by decide) ?_
  refine vp_callSi (va_Run.run (va_runV (As := [.int (nI 2)]) (rest := [.int (v_117724 * 27)]) ⟨hx, hb, hml, hown, hts⟩ (c_J0_charAt l sa sv 3 f A 2 (by decide) (by decide)) (cwV 1 hts (tz_gV qw_906 qw_907 qw_908 qw_884 qw_909) rfl rfl rfl (by decide +kernel) ⟨Nat.le_of_ble_eq_true rfl, Nat.le_of_ble_eq_true rfl⟩) ⟨tz_blJ, hT.recv, tz_preJ hT⟩ rfl rfl hl.1 rfl (lv_room (Nat.le_of_ble_eq_true rfl)) dX11_pack_24 ⟨Nat.le_of_ble_eq_true rfl, Nat.le_of_ble_eq_true rfl⟩)) (fun r_117726 hw => ?_)
  have hc_2 := hw
  refine lv_bipush (v := 97) hx hb dX11_pack_27 (by decide) ?_
  refine lv_isub hx hb dX11_pack_29 ?_
  refine lv_iconst (v := 1) hx hb dX11_pack_30 (by decide) ?_
  refine lv_iadd hx hb dX11_pack_31 ?_
  refine lv_iadd hx hb dX11_pack_32 ?_
  refine lv_topi (fun v_117727 v_117727_e => ?_)
  refine lv_istore_n (lv' := [(1, .int v_117727), (2, .int 2), (0, .ref sa)]) hx hb dX11_pack_33 rfl hl (by decide) rfl (fun ls hl => ?_)
  refine lv_iinc (v := 3) (lv' := [(2, .int 3), (1, .int v_117727), (0, .ref sa)]) hx hb dX11_pack_34 hl (k := 1) rfl (by decide) (by decide) rfl (fun ls hl => ?_)
  refine lv_goto (tgt := 4) hx hb dX11_pack_37 (by decide) ?_
  refine lv_iload_n hx hb dX11_pack_4 rfl (lv_at hl 0 rfl) ?_
  refine lv_aload_n hx hb dX11_pack_5 rfl (lv_at hl 2 rfl) ?_
  refine vp_callSi (va_Run.run (va_runV (As := []) (rest := [.int 3]) ⟨hx, hb, hml, hown, hts⟩ (c_J0_length l sa sv 3 f A) (cwV 0 hts (tz_gV qw_902 qw_903 qw_904 qw_884 qw_905) rfl rfl rfl (by decide +kernel) ⟨Nat.le_of_ble_eq_true rfl, Nat.le_of_ble_eq_true rfl⟩) ⟨tz_blJ, hT.recv, tz_preJ hT⟩ rfl rfl hl.1 rfl (lv_room (Nat.le_of_ble_eq_true rfl)) dX11_pack_6 ⟨Nat.le_of_ble_eq_true rfl, Nat.le_of_ble_eq_true rfl⟩)) (fun r_117728 hw => ?_)
  subst hw
  refine tz_i (y := 3) (by decide) ?_
  refine lv_icmp_ge (tgt := 40) hx hb dX11_pack_9 (by decide) (fun _ => ?_) (fun h9 => (h9 (by decide)).elim)
  refine lv_iload_n hx hb dX11_pack_40 rfl (lv_at hl 1 rfl) ?_
  exact W.iret (v := v_117727) hx hb hr (fun t ht hW => ⟨_, rfl, (pack3 hc_0 hc_1 hc_2 v_117721_e v_117724_e v_117727_e), ht⟩) (fun _ h => nomatch h) dX11_pack_41
set_option maxHeartbeats 4000000 in
set_option maxRecDepth 100000 in
theorem c_X11_pack_6 (l : Launch) (sa sv : Nat) (f : Nat → Int32) (A : Nat → Prop) : Met l yX11_pack (.code yX11_pack cX11_pack 3 (some .int) :: wsL_law) ({ frames := 4, cells := 0, slots := 0, locals := 85 }) (va_Pc [.ref sa] (fun U => tStr sa sv 6 f A U U.heap)) (vp_Si (fun r => r = pk32 (fun j => chr8 (f j)) 6)) 0 0 (fun _ => False) := by
  refine Met.ofW (cc := cX11_pack) (maxL := 3) (ret := (some .int)) (by decide) rfl ?_
  intro p e s m args below meth c s₁ B hml hv
  obtain ⟨rfl, hT⟩ := hv
  have hx := B.exec
  have hb := B.bytes
  have hr := B.returns
  have hts0 := atoms_spec (ws := (.code yX11_pack cX11_pack 3 (some .int) :: wsL_law)) B.pre
  have hts : ∀ w ∈ wsL_law, w.before _ s = true := fun w h => hts0 w (List.mem_cons_of_mem _ h)
  have hown : s.vm.findClass RX11 = some m.cls := findClass_of_methodNamed B.named
  have hlocks := B.notSynchronized
  have hl := lv_entry ([.ref sa]) (n := 3) (Nat.le_of_ble_eq_true rfl)
  rw [lg_entry_eq]
  generalize (lg_sl ([.ref sa]) ++ List.replicate (3 - (lg_sl ([.ref sa])).length) Slot.unset).toArray = ls at hl ⊢
  have hl : lv_has ls 3 [(0, .ref sa)] := hl
  refine lv_iconst (v := 0) hx hb dX11_pack_0 (by decide) ?_
  refine lv_istore_n (lv' := [(1, .int 0), (0, .ref sa)]) hx hb dX11_pack_1 rfl hl (by decide) rfl (fun ls hl => ?_)
  refine lv_iconst (v := 0) hx hb dX11_pack_2 (by decide) ?_
  refine lv_istore_n (lv' := [(2, .int 0), (1, .int 0), (0, .ref sa)]) hx hb dX11_pack_3 rfl hl (by decide) rfl (fun ls hl => ?_)
  refine lv_iload_n hx hb dX11_pack_4 rfl (lv_at hl 0 rfl) ?_
  refine lv_aload_n hx hb dX11_pack_5 rfl (lv_at hl 2 rfl) ?_
  refine vp_callSi (va_Run.run (va_runV (As := []) (rest := [.int 0]) ⟨hx, hb, hml, hown, hts⟩ (c_J0_length l sa sv 6 f A) (cwV 0 hts (tz_gV qw_902 qw_903 qw_904 qw_884 qw_905) rfl rfl rfl (by decide +kernel) ⟨Nat.le_of_ble_eq_true rfl, Nat.le_of_ble_eq_true rfl⟩) ⟨tz_blJ, hT.recv, tz_preJ hT⟩ rfl rfl hl.1 rfl (lv_room (Nat.le_of_ble_eq_true rfl)) dX11_pack_6 ⟨Nat.le_of_ble_eq_true rfl, Nat.le_of_ble_eq_true rfl⟩)) (fun r_117729 hw => ?_)
  subst hw
  refine tz_i (y := 6) (by decide) ?_
  refine lv_icmp_ge (tgt := 40) hx hb dX11_pack_9 (by decide) (fun h9 => absurd h9 (by decide)) (fun _ => ?_)
  refine lv_iload_n hx hb dX11_pack_12 rfl (lv_at hl 0 rfl) ?_
  refine lv_bipush (v := 6) hx hb dX11_pack_13 (by decide) ?_
  refine lv_icmp_ge (tgt := 40) hx hb dX11_pack_15 (by decide) (fun h9 => absurd h9 (by decide)) (fun _ => ?_)
  refine lv_iload_n hx hb dX11_pack_18 rfl (lv_at hl 1 rfl) ?_
  refine lv_bipush (v := 27) hx hb dX11_pack_19 (by decide) ?_
  refine lv_imul hx hb dX11_pack_21 ?_
  refine tz_i (y := 0) (by decide +kernel) ?_
  refine lv_aload_n hx hb dX11_pack_22 rfl (lv_at hl 2 rfl) ?_
  refine lv_iload_n hx hb dX11_pack_23 rfl (lv_at hl 0 rfl) ?_
  refine tz_i (y := (nI 0)) (by decide) ?_
  refine vp_callSi (va_Run.run (va_runV (As := [.int (nI 0)]) (rest := [.int 0]) ⟨hx, hb, hml, hown, hts⟩ (c_J0_charAt l sa sv 6 f A 0 (by decide) (by decide)) (cwV 1 hts (tz_gV qw_906 qw_907 qw_908 qw_884 qw_909) rfl rfl rfl (by decide +kernel) ⟨Nat.le_of_ble_eq_true rfl, Nat.le_of_ble_eq_true rfl⟩) ⟨tz_blJ, hT.recv, tz_preJ hT⟩ rfl rfl hl.1 rfl (lv_room (Nat.le_of_ble_eq_true rfl)) dX11_pack_24 ⟨Nat.le_of_ble_eq_true rfl, Nat.le_of_ble_eq_true rfl⟩)) (fun r_117730 hw => ?_)
  have hc_0 := hw
  refine lv_bipush (v := 97) hx hb dX11_pack_27 (by decide) ?_
  refine lv_isub hx hb dX11_pack_29 ?_
  refine lv_iconst (v := 1) hx hb dX11_pack_30 (by decide) ?_
  refine lv_iadd hx hb dX11_pack_31 ?_
  refine lv_iadd hx hb dX11_pack_32 ?_
  refine lv_topi (fun v_117731 v_117731_e => ?_)
  refine lv_istore_n (lv' := [(1, .int v_117731), (2, .int 0), (0, .ref sa)]) hx hb dX11_pack_33 rfl hl (by decide) rfl (fun ls hl => ?_)
  refine lv_iinc (v := 1) (lv' := [(2, .int 1), (1, .int v_117731), (0, .ref sa)]) hx hb dX11_pack_34 hl (k := 1) rfl (by decide) (by decide) rfl (fun ls hl => ?_)
  refine lv_goto (tgt := 4) hx hb dX11_pack_37 (by decide) ?_
  refine lv_iload_n hx hb dX11_pack_4 rfl (lv_at hl 0 rfl) ?_
  refine lv_aload_n hx hb dX11_pack_5 rfl (lv_at hl 2 rfl) ?_
  refine vp_callSi (va_Run.run (va_runV (As := []) (rest := [.int 1]) ⟨hx, hb, hml, hown, hts⟩ (c_J0_length l sa sv 6 f A) (cwV 0 hts (tz_gV qw_902 qw_903 qw_904 qw_884 qw_905) rfl rfl rfl (by decide +kernel) ⟨Nat.le_of_ble_eq_true rfl, Nat.le_of_ble_eq_true rfl⟩) ⟨tz_blJ, hT.recv, tz_preJ hT⟩ rfl rfl hl.1 rfl (lv_room (Nat.le_of_ble_eq_true rfl)) dX11_pack_6 ⟨Nat.le_of_ble_eq_true rfl, Nat.le_of_ble_eq_true rfl⟩)) (fun r_117732 hw => ?_)
  subst hw
  refine tz_i (y := 6) (by decide) ?_
  refine lv_icmp_ge (tgt := 40) hx hb dX11_pack_9 (by decide) (fun h9 => absurd h9 (by decide)) (fun _ => ?_)
  refine lv_iload_n hx hb dX11_pack_12 rfl (lv_at hl 0 rfl) ?_
  refine lv_bipush (v := 6) hx hb dX11_pack_13 (by decide) ?_
  refine lv_icmp_ge (tgt := 40) hx hb dX11_pack_15 (by decide) (fun h9 => absurd h9 (by decide)) (fun _ => ?_)
  refine lv_iload_n hx hb dX11_pack_18 rfl (lv_at hl 1 rfl) ?_
  refine lv_bipush (v := 27) hx hb dX11_pack_19 (by decide) ?_
  refine lv_imul hx hb dX11_pack_21 ?_
  refine lv_aload_n hx hb dX11_pack_22 rfl (lv_at hl 2 rfl) ?_
  refine lv_iload_n hx hb dX11_pack_23 rfl (lv_at hl 0 rfl) ?_
  refine tz_i (y := (nI 1)) (by decide) ?_
  refine vp_callSi (va_Run.run (va_runV (As := [.int (nI 1)]) (rest := [.int (v_117731 * 27)]) ⟨hx, hb, hml, hown, hts⟩ (c_J0_charAt l sa sv 6 f A 1 (by decide) (by decide)) (cwV 1 hts (tz_gV qw_906 qw_907 qw_908 qw_884 qw_909) rfl rfl rfl (by decide +kernel) ⟨Nat.le_of_ble_eq_true rfl, Nat.le_of_ble_eq_true rfl⟩) ⟨tz_blJ, hT.recv, tz_preJ hT⟩ rfl rfl hl.1 rfl (lv_room (Nat.le_of_ble_eq_true rfl)) dX11_pack_24 ⟨Nat.le_of_ble_eq_true rfl, Nat.le_of_ble_eq_true rfl⟩)) (fun r_117733 hw => ?_)
  have hc_1 := hw
  refine lv_bipush (v := 97) hx hb dX11_pack_27 (by decide) ?_
  refine lv_isub hx hb dX11_pack_29 ?_
  refine lv_iconst (v := 1) hx hb dX11_pack_30 (by decide) ?_
  refine lv_iadd hx hb dX11_pack_31 ?_
  refine lv_iadd hx hb dX11_pack_32 ?_
  refine lv_topi (fun v_117734 v_117734_e => ?_)
  refine lv_istore_n (lv' := [(1, .int v_117734), (2, .int 1), (0, .ref sa)]) hx hb dX11_pack_33 rfl hl (by decide) rfl (fun ls hl => ?_)
  refine lv_iinc (v := 2) (lv' := [(2, .int 2), (1, .int v_117734), (0, .ref sa)]) hx hb dX11_pack_34 hl (k := 1) rfl (by decide) (by decide) rfl (fun ls hl => ?_)
  refine lv_goto (tgt := 4) hx hb dX11_pack_37 (by decide) ?_
  refine lv_iload_n hx hb dX11_pack_4 rfl (lv_at hl 0 rfl) ?_
  refine lv_aload_n hx hb dX11_pack_5 rfl (lv_at hl 2 rfl) ?_
  refine vp_callSi (va_Run.run (va_runV (As := []) (rest := [.int 2]) ⟨hx, hb, hml, hown, hts⟩ (c_J0_length l sa sv 6 f A) (cwV 0 hts (tz_gV qw_902 qw_903 qw_904 qw_884 qw_905) rfl rfl rfl (by decide +kernel) ⟨Nat.le_of_ble_eq_true rfl, Nat.le_of_ble_eq_true rfl⟩) ⟨tz_blJ, hT.recv, tz_preJ hT⟩ rfl rfl hl.1 rfl (lv_room (Nat.le_of_ble_eq_true rfl)) dX11_pack_6 ⟨Nat.le_of_ble_eq_true rfl, Nat.le_of_ble_eq_true rfl⟩)) (fun r_117735 hw => ?_)
  subst hw
  refine tz_i (y := 6) (by decide) ?_
  refine lv_icmp_ge (tgt := 40) hx hb dX11_pack_9 (by decide) (fun h9 => absurd h9 (by decide)) (fun _ => ?_)
  refine lv_iload_n hx hb dX11_pack_12 rfl (lv_at hl 0 rfl) ?_
  refine lv_bipush (v := 6) hx hb dX11_pack_13 (by decide) ?_
  refine lv_icmp_ge (tgt := 40) hx hb dX11_pack_15 (by decide) (fun h9 => absurd h9 (by decide)) (fun _ => ?_)
  refine lv_iload_n hx hb dX11_pack_18 rfl (lv_at hl 1 rfl) ?_
  refine lv_bipush (v := 27) hx hb dX11_pack_19 (by decide) ?_
  refine lv_imul hx hb dX11_pack_21 ?_
  refine lv_aload_n hx hb dX11_pack_22 rfl (lv_at hl 2 rfl) ?_
  refine lv_iload_n hx hb dX11_pack_23 rfl (lv_at hl 0 rfl) ?_
  refine tz_i (y := (nI 2)) (by decide) ?_
  refine vp_callSi (va_Run.run (va_runV (As := [.int (nI 2)]) (rest := [.int (v_117734 * 27)]) ⟨hx, hb, hml, hown, hts⟩ (c_J0_charAt l sa sv 6 f A 2 (by decide) (by decide)) (cwV 1 hts (tz_gV qw_906 qw_907 qw_908 qw_884 qw_909) rfl rfl rfl (by decide +kernel) ⟨Nat.le_of_ble_eq_true rfl, Nat.le_of_ble_eq_true rfl⟩) ⟨tz_blJ, hT.recv, tz_preJ hT⟩ rfl rfl hl.1 rfl (lv_room (Nat.le_of_ble_eq_true rfl)) dX11_pack_24 ⟨Nat.le_of_ble_eq_true rfl, Nat.le_of_ble_eq_true rfl⟩)) (fun r_117736 hw => ?_)
  have hc_2 := hw
  refine lv_bipush (v := 97) hx hb dX11_pack_27 (by decide) ?_
  refine lv_isub hx hb dX11_pack_29 ?_
  refine lv_iconst (v := 1) hx hb dX11_pack_30 (by decide) ?_
  refine lv_iadd hx hb dX11_pack_31 ?_
  refine lv_iadd hx hb dX11_pack_32 ?_
  refine lv_topi (fun v_117737 v_117737_e => ?_)
  refine lv_istore_n (lv' := [(1, .int v_117737), (2, .int 2), (0, .ref sa)]) hx hb dX11_pack_33 rfl hl (by decide) rfl (fun ls hl => ?_)
  refine lv_iinc (v := 3) (lv' := [(2, .int 3), (1, .int v_117737), (0, .ref sa)]) hx hb dX11_pack_34 hl (k := 1) rfl (by decide) (by decide) rfl (fun ls hl => ?_)
  refine lv_goto (tgt := 4) hx hb dX11_pack_37 (by decide) ?_
  refine lv_iload_n hx hb dX11_pack_4 rfl (lv_at hl 0 rfl) ?_
  refine lv_aload_n hx hb dX11_pack_5 rfl (lv_at hl 2 rfl) ?_
  refine vp_callSi (va_Run.run (va_runV (As := []) (rest := [.int 3]) ⟨hx, hb, hml, hown, hts⟩ (c_J0_length l sa sv 6 f A) (cwV 0 hts (tz_gV qw_902 qw_903 qw_904 qw_884 qw_905) rfl rfl rfl (by decide +kernel) ⟨Nat.le_of_ble_eq_true rfl, Nat.le_of_ble_eq_true rfl⟩) ⟨tz_blJ, hT.recv, tz_preJ hT⟩ rfl rfl hl.1 rfl (lv_room (Nat.le_of_ble_eq_true rfl)) dX11_pack_6 ⟨Nat.le_of_ble_eq_true rfl, Nat.le_of_ble_eq_true rfl⟩)) (fun r_117738 hw => ?_)
  subst hw
  refine tz_i (y := 6) (by decide) ?_
  refine lv_icmp_ge (tgt := 40) hx hb dX11_pack_9 (by decide) (fun h9 => absurd h9 (by decide)) (fun _ => ?_)
  refine lv_iload_n hx hb dX11_pack_12 rfl (lv_at hl 0 rfl) ?_
  refine lv_bipush (v := 6) hx hb dX11_pack_13 (by decide) ?_
  refine lv_icmp_ge (tgt := 40) hx hb dX11_pack_15 (by decide) (fun h9 => absurd h9 (by decide)) (fun _ => ?_)
  refine lv_iload_n hx hb dX11_pack_18 rfl (lv_at hl 1 rfl) ?_
  refine lv_bipush (v := 27) hx hb dX11_pack_19 (by decide) ?_
  refine lv_imul hx hb dX11_pack_21 ?_
  refine lv_aload_n hx hb dX11_pack_22 rfl (lv_at hl 2 rfl) ?_
  refine lv_iload_n hx hb dX11_pack_23 rfl (lv_at hl 0 rfl) ?_
  refine tz_i (y := (nI 3)) (by decide) ?_
  refine vp_callSi (va_Run.run (va_runV (As := [.int (nI 3)]) (rest := [.int (v_117737 * 27)]) ⟨hx, hb, hml, hown, hts⟩ (c_J0_charAt l sa sv 6 f A 3 (by decide) (by decide)) (cwV 1 hts (tz_gV qw_906 qw_907 qw_908 qw_884 qw_909) rfl rfl rfl (by decide +kernel) ⟨Nat.le_of_ble_eq_true rfl, Nat.le_of_ble_eq_true rfl⟩) ⟨tz_blJ, hT.recv, tz_preJ hT⟩ rfl rfl hl.1 rfl (lv_room (Nat.le_of_ble_eq_true rfl)) dX11_pack_24 ⟨Nat.le_of_ble_eq_true rfl, Nat.le_of_ble_eq_true rfl⟩)) (fun r_117739 hw => ?_)
  have hc_3 := hw
  refine lv_bipush (v := 97) hx hb dX11_pack_27 (by decide) ?_
  refine lv_isub hx hb dX11_pack_29 ?_
  refine lv_iconst (v := 1) hx hb dX11_pack_30 (by decide) ?_
  refine lv_iadd hx hb dX11_pack_31 ?_
  refine lv_iadd hx hb dX11_pack_32 ?_
  refine lv_topi (fun v_117740 v_117740_e => ?_)
  refine lv_istore_n (lv' := [(1, .int v_117740), (2, .int 3), (0, .ref sa)]) hx hb dX11_pack_33 rfl hl (by decide) rfl (fun ls hl => ?_)
  refine lv_iinc (v := 4) (lv' := [(2, .int 4), (1, .int v_117740), (0, .ref sa)]) hx hb dX11_pack_34 hl (k := 1) rfl (by decide) (by decide) rfl (fun ls hl => ?_)
  refine lv_goto (tgt := 4) hx hb dX11_pack_37 (by decide) ?_
  refine lv_iload_n hx hb dX11_pack_4 rfl (lv_at hl 0 rfl) ?_
  refine lv_aload_n hx hb dX11_pack_5 rfl (lv_at hl 2 rfl) ?_
  refine vp_callSi (va_Run.run (va_runV (As := []) (rest := [.int 4]) ⟨hx, hb, hml, hown, hts⟩ (c_J0_length l sa sv 6 f A) (cwV 0 hts (tz_gV qw_902 qw_903 qw_904 qw_884 qw_905) rfl rfl rfl (by decide +kernel) ⟨Nat.le_of_ble_eq_true rfl, Nat.le_of_ble_eq_true rfl⟩) ⟨tz_blJ, hT.recv, tz_preJ hT⟩ rfl rfl hl.1 rfl (lv_room (Nat.le_of_ble_eq_true rfl)) dX11_pack_6 ⟨Nat.le_of_ble_eq_true rfl, Nat.le_of_ble_eq_true rfl⟩)) (fun r_117741 hw => ?_)
  subst hw
  refine tz_i (y := 6) (by decide) ?_
  refine lv_icmp_ge (tgt := 40) hx hb dX11_pack_9 (by decide) (fun h9 => absurd h9 (by decide)) (fun _ => ?_)
  refine lv_iload_n hx hb dX11_pack_12 rfl (lv_at hl 0 rfl) ?_
  refine lv_bipush (v := 6) hx hb dX11_pack_13 (by decide) ?_
  refine lv_icmp_ge (tgt := 40) hx hb dX11_pack_15 (by decide) (fun h9 => absurd h9 (by decide)) (fun _ => ?_)
  refine lv_iload_n hx hb dX11_pack_18 rfl (lv_at hl 1 rfl) ?_
  refine lv_bipush (v := 27) hx hb dX11_pack_19 (by decide) ?_
  refine lv_imul hx hb dX11_pack_21 ?_
  refine lv_aload_n hx hb dX11_pack_22 rfl (lv_at hl 2 rfl) ?_
  refine lv_iload_n hx hb dX11_pack_23 rfl (lv_at hl 0 rfl) ?_
  refine tz_i (y := (nI 4)) (by decide) ?_
  refine vp_callSi (va_Run.run (va_runV (As := [.int (nI 4)]) (rest := [.int (v_117740 * 27)]) ⟨hx, hb, hml, hown, hts⟩ (c_J0_charAt l sa sv 6 f A 4 (by decide) (by decide)) (cwV 1 hts (tz_gV qw_906 qw_907 qw_908 qw_884 qw_909) rfl rfl rfl (by decide +kernel) ⟨Nat.le_of_ble_eq_true rfl, Nat.le_of_ble_eq_true rfl⟩) ⟨tz_blJ, hT.recv, tz_preJ hT⟩ rfl rfl hl.1 rfl (lv_room (Nat.le_of_ble_eq_true rfl)) dX11_pack_24 ⟨Nat.le_of_ble_eq_true rfl, Nat.le_of_ble_eq_true rfl⟩)) (fun r_117742 hw => ?_)
  have hc_4 := hw
  refine lv_bipush (v := 97) hx hb dX11_pack_27 (by decide) ?_
  refine lv_isub hx hb dX11_pack_29 ?_
  refine lv_iconst (v := 1) hx hb dX11_pack_30 (by decide) ?_
  refine lv_iadd hx hb dX11_pack_31 ?_
  refine lv_iadd hx hb dX11_pack_32 ?_
  refine lv_topi (fun v_117743 v_117743_e => ?_)
  refine lv_istore_n (lv' := [(1, .int v_117743), (2, .int 4), (0, .ref sa)]) hx hb dX11_pack_33 rfl hl (by decide) rfl (fun ls hl => ?_)
  refine lv_iinc (v := 5) (lv' := [(2, .int 5), (1, .int v_117743), (0, .ref sa)]) hx hb dX11_pack_34 hl (k := 1) rfl (by decide) (by decide) rfl (fun ls hl => ?_)
  refine lv_goto (tgt := 4) hx hb dX11_pack_37 (by decide) ?_
  refine lv_iload_n hx hb dX11_pack_4 rfl (lv_at hl 0 rfl) ?_
  refine lv_aload_n hx hb dX11_pack_5 rfl (lv_at hl 2 rfl) ?_
  refine vp_callSi (va_Run.run (va_runV (As := []) (rest := [.int 5]) ⟨hx, hb, hml, hown, hts⟩ (c_J0_length l sa sv 6 f A) (cwV 0 hts (tz_gV qw_902 qw_903 qw_904 qw_884 qw_905) rfl rfl rfl (by decide +kernel) ⟨Nat.le_of_ble_eq_true rfl, Nat.le_of_ble_eq_true rfl⟩) ⟨tz_blJ, hT.recv, tz_preJ hT⟩ rfl rfl hl.1 rfl (lv_room (Nat.le_of_ble_eq_true rfl)) dX11_pack_6 ⟨Nat.le_of_ble_eq_true rfl, Nat.le_of_ble_eq_true rfl⟩)) (fun r_117744 hw => ?_)
  subst hw
  refine tz_i (y := 6) (by decide) ?_
  refine lv_icmp_ge (tgt := 40) hx hb dX11_pack_9 (by decide) (fun h9 => absurd h9 (by decide)) (fun _ => ?_)
  refine lv_iload_n hx hb dX11_pack_12 rfl (lv_at hl 0 rfl) ?_
  refine lv_bipush (v := 6) hx hb dX11_pack_13 (by decide) ?_
  refine lv_icmp_ge (tgt := 40) hx hb dX11_pack_15 (by decide) (fun h9 => absurd h9 (by decide)) (fun _ => ?_)
  refine lv_iload_n hx hb dX11_pack_18 rfl (lv_at hl 1 rfl) ?_
  refine lv_bipush (v := 27) hx hb dX11_pack_19 (by decide) ?_
  refine lv_imul hx hb dX11_pack_21 ?_
  refine lv_aload_n hx hb dX11_pack_22 rfl (lv_at hl 2 rfl) ?_
  refine lv_iload_n hx hb dX11_pack_23 rfl (lv_at hl 0 rfl) ?_
  refine tz_i (y := (nI 5)) (by decide) ?_
  refine vp_callSi (va_Run.run (va_runV (As := [.int (nI 5)]) (rest := [.int (v_117743 * 27)]) ⟨hx, hb, hml, hown, hts⟩ (c_J0_charAt l sa sv 6 f A 5 (by decide) (by decide)) (cwV 1 hts (tz_gV qw_906 qw_907 qw_908 qw_884 qw_909) rfl rfl rfl (by decide +kernel) ⟨Nat.le_of_ble_eq_true rfl, Nat.le_of_ble_eq_true rfl⟩) ⟨tz_blJ, hT.recv, tz_preJ hT⟩ rfl rfl hl.1 rfl (lv_room (Nat.le_of_ble_eq_true rfl)) dX11_pack_24 ⟨Nat.le_of_ble_eq_true rfl, Nat.le_of_ble_eq_true rfl⟩)) (fun r_117745 hw => ?_)
  have hc_5 := hw
  refine lv_bipush (v := 97) hx hb dX11_pack_27 (by decide) ?_
  refine lv_isub hx hb dX11_pack_29 ?_
  refine lv_iconst (v := 1) hx hb dX11_pack_30 (by decide) ?_
  refine lv_iadd hx hb dX11_pack_31 ?_
  refine lv_iadd hx hb dX11_pack_32 ?_
  refine lv_topi (fun v_117746 v_117746_e => ?_)
  refine lv_istore_n (lv' := [(1, .int v_117746), (2, .int 5), (0, .ref sa)]) hx hb dX11_pack_33 rfl hl (by decide) rfl (fun ls hl => ?_)
  refine lv_iinc (v := 6) (lv' := [(2, .int 6), (1, .int v_117746), (0, .ref sa)]) hx hb dX11_pack_34 hl (k := 1) rfl (by decide) (by decide) rfl (fun ls hl => ?_)
  refine lv_goto (tgt := 4) hx hb dX11_pack_37 (by decide) ?_
  refine lv_iload_n hx hb dX11_pack_4 rfl (lv_at hl 0 rfl) ?_
  refine lv_aload_n hx hb dX11_pack_5 rfl (lv_at hl 2 rfl) ?_
  refine vp_callSi (va_Run.run (va_runV (As := []) (rest := [.int 6]) ⟨hx, hb, hml, hown, hts⟩ (c_J0_length l sa sv 6 f A) (cwV 0 hts (tz_gV qw_902 qw_903 qw_904 qw_884 qw_905) rfl rfl rfl (by decide +kernel) ⟨Nat.le_of_ble_eq_true rfl, Nat.le_of_ble_eq_true rfl⟩) ⟨tz_blJ, hT.recv, tz_preJ hT⟩ rfl rfl hl.1 rfl (lv_room (Nat.le_of_ble_eq_true rfl)) dX11_pack_6 ⟨Nat.le_of_ble_eq_true rfl, Nat.le_of_ble_eq_true rfl⟩)) (fun r_117747 hw => ?_)
  subst hw
  refine tz_i (y := 6) (by decide) ?_
  refine lv_icmp_ge (tgt := 40) hx hb dX11_pack_9 (by decide) (fun _ => ?_) (fun h9 => (h9 (by decide)).elim)
  refine lv_iload_n hx hb dX11_pack_40 rfl (lv_at hl 1 rfl) ?_
  exact W.iret (v := v_117746) hx hb hr (fun t ht hW => ⟨_, rfl, (pack6 hc_0 hc_1 hc_2 hc_3 hc_4 hc_5 v_117731_e v_117734_e v_117737_e v_117740_e v_117743_e v_117746_e), ht⟩) (fun _ h => nomatch h) dX11_pack_41
theorem qw_910 : Cond.methodLink RX8 3 objectInit ∈ wsL_law := tseg_1 (by decide +kernel) (List.mem_of_getElem? (i := 36) rfl)
theorem qw_911 : Cond.instanceMethod objectInit ∈ wsL_law := tseg_1 (by decide +kernel) (List.mem_of_getElem? (i := 29) rfl)
theorem qw_912 : Cond.code objectInit ⟨#[0xb1]⟩ 1 none ∈ wsL_law := tseg_1 (by decide +kernel) (List.mem_of_getElem? (i := 30) rfl)
theorem qw_913 : Cond.arrayClass .int ∈ wsL_law := tseg_1 (by decide +kernel) (List.mem_of_getElem? (i := 47) rfl)
theorem qw_914 : Cond.methodLink RX2 3 objectInit ∈ wsL_law := tseg_1 (by decide +kernel) (List.mem_of_getElem? (i := 53) rfl)
theorem qw_915 : Cond.methodLink RX10 3 objectInit ∈ wsL_law := tseg_2 (by decide +kernel) (List.mem_of_getElem? (i := 86) rfl)
theorem qw_916 : Cond.arrayClass .long ∈ wsL_law := tseg_2 (by decide +kernel) (List.mem_of_getElem? (i := 50) rfl)
theorem qw_917 : Cond.methodLink RX9 3 objectInit ∈ wsL_law := tseg_1 (by decide +kernel) (List.mem_of_getElem? (i := 237) rfl)
theorem qw_918 : Cond.methodLink RX7 3 objectInit ∈ wsL_law := tseg_1 (by decide +kernel) (List.mem_of_getElem? (i := 214) rfl)
theorem qw_919 : Cond.methodLink RX5 3 objectInit ∈ wsL_law := tseg_2 (by decide +kernel) (List.mem_of_getElem? (i := 12) rfl)
theorem qw_920 : Cond.methodLink RX1 3 objectInit ∈ wsL_law := tseg_2 (by decide +kernel) (List.mem_of_getElem? (i := 34) rfl)
theorem qw_921 : Cond.methodLink RX0 3 objectInit ∈ wsL_law := tseg_2 (by decide +kernel) (List.mem_of_getElem? (i := 28) rfl)
theorem qw_922 : Cond.classLink RX0 9 RX1 ∈ wsL_law := tseg_2 (by decide +kernel) (List.mem_of_getElem? (i := 29) rfl)
theorem qw_923 : Cond.instantiable RX1 3 ∈ wsL_law := tseg_2 (by decide +kernel) (List.mem_of_getElem? (i := 30) rfl)
theorem qw_924 : Cond.code yX1_init cX1_init 1 none ∈ wsL_law := tseg_2 (by decide +kernel) (List.mem_of_getElem? (i := 33) rfl)
theorem qw_925 : Cond.instanceMethod yX1_init ∈ wsL_law := tseg_2 (by decide +kernel) (List.mem_of_getElem? (i := 32) rfl)
theorem qw_926 : Cond.methodLink RX6 3 objectInit ∈ wsL_law := tseg_2 (by decide +kernel) (List.mem_of_getElem? (i := 22) rfl)
theorem qw_927 : Cond.classLink RX6 23 RX0 ∈ wsL_law := tseg_2 (by decide +kernel) (List.mem_of_getElem? (i := 23) rfl)
theorem qw_928 : Cond.instantiable RX0 3 ∈ wsL_law := tseg_2 (by decide +kernel) (List.mem_of_getElem? (i := 24) rfl)
theorem qw_929 : Cond.code yX0_init cX0_init 2 none ∈ wsL_law := tseg_2 (by decide +kernel) (List.mem_of_getElem? (i := 27) rfl)
theorem qw_930 : Cond.methodLink RX6 25 yX0_init ∈ wsL_law := tseg_2 (by decide +kernel) (List.mem_of_getElem? (i := 25) rfl)
theorem qw_931 : Cond.instanceMethod yX0_init ∈ wsL_law := tseg_2 (by decide +kernel) (List.mem_of_getElem? (i := 26) rfl)
theorem qw_932 : Cond.methodLink RX3 3 objectInit ∈ wsL_law := tseg_2 (by decide +kernel) (List.mem_of_getElem? (i := 80) rfl)
theorem qw_933 : Cond.classLink RX3 15 RX10 ∈ wsL_law := tseg_2 (by decide +kernel) (List.mem_of_getElem? (i := 81) rfl)
theorem qw_934 : Cond.instantiable RX10 2 ∈ wsL_law := tseg_2 (by decide +kernel) (List.mem_of_getElem? (i := 82) rfl)
theorem qw_935 : Cond.code yX10_init cX10_init 1 none ∈ wsL_law := tseg_2 (by decide +kernel) (List.mem_of_getElem? (i := 85) rfl)
theorem qw_936 : Cond.instanceMethod yX10_init ∈ wsL_law := tseg_2 (by decide +kernel) (List.mem_of_getElem? (i := 84) rfl)
theorem dX0_init_0 : decode cX0_init 0 = .ok (.aload_n 0, 1) := by decide +kernel
theorem dX0_init_1 : decode cX0_init 1 = .ok (.invokespecial 3, 3) := by decide +kernel
theorem dX0_init_4 : decode cX0_init 4 = .ok (.aload_n 0, 1) := by decide +kernel
theorem dX0_init_5 : decode cX0_init 5 = .ok (.new 9, 3) := by decide +kernel
theorem dX0_init_8 : decode cX0_init 8 = .ok (.dup, 1) := by decide +kernel
theorem dX0_init_9 : decode cX0_init 9 = .ok (.invokespecial 11, 3) := by decide +kernel
theorem dX0_init_12 : decode cX0_init 12 = .ok (.putfield 12, 3) := by decide +kernel
theorem dX0_init_15 : decode cX0_init 15 = .ok (.aload_n 0, 1) := by decide +kernel
theorem dX0_init_16 : decode cX0_init 16 = .ok (.bipush 12, 2) := by decide +kernel
theorem dX0_init_18 : decode cX0_init 18 = .ok (.newarray .int, 2) := by decide +kernel
theorem dX0_init_20 : decode cX0_init 20 = .ok (.putfield 18, 3) := by decide +kernel
theorem dX0_init_23 : decode cX0_init 23 = .ok (.aload_n 0, 1) := by decide +kernel
theorem dX0_init_24 : decode cX0_init 24 = .ok (.aload_n 1, 1) := by decide +kernel
theorem dX0_init_25 : decode cX0_init 25 = .ok (.putfield 22, 3) := by decide +kernel
theorem dX0_init_28 : decode cX0_init 28 = .ok (.return_, 1) := by decide +kernel
theorem dX10_init_0 : decode cX10_init 0 = .ok (.aload_n 0, 1) := by decide +kernel
theorem dX10_init_1 : decode cX10_init 1 = .ok (.invokespecial 3, 3) := by decide +kernel
theorem dX10_init_4 : decode cX10_init 4 = .ok (.aload_n 0, 1) := by decide +kernel
theorem dX10_init_5 : decode cX10_init 5 = .ok (.bipush 12, 2) := by decide +kernel
theorem dX10_init_7 : decode cX10_init 7 = .ok (.newarray .long, 2) := by decide +kernel
theorem dX10_init_9 : decode cX10_init 9 = .ok (.putfield 9, 3) := by decide +kernel
theorem dX10_init_12 : decode cX10_init 12 = .ok (.aload_n 0, 1) := by decide +kernel
theorem dX10_init_13 : decode cX10_init 13 = .ok (.lconst 1, 1) := by decide +kernel
theorem dX10_init_14 : decode cX10_init 14 = .ok (.putfield 15, 3) := by decide +kernel
theorem dX10_init_17 : decode cX10_init 17 = .ok (.return_, 1) := by decide +kernel
theorem dX1_init_0 : decode cX1_init 0 = .ok (.aload_n 0, 1) := by decide +kernel
theorem dX1_init_1 : decode cX1_init 1 = .ok (.invokespecial 3, 3) := by decide +kernel
theorem dX1_init_4 : decode cX1_init 4 = .ok (.aload_n 0, 1) := by decide +kernel
theorem dX1_init_5 : decode cX1_init 5 = .ok (.bipush 8, 2) := by decide +kernel
theorem dX1_init_7 : decode cX1_init 7 = .ok (.bipush 8, 2) := by decide +kernel
theorem dX1_init_9 : decode cX1_init 9 = .ok (.multianewarray 9 2, 4) := by decide +kernel
theorem dX1_init_13 : decode cX1_init 13 = .ok (.putfield 11, 3) := by decide +kernel
theorem dX1_init_16 : decode cX1_init 16 = .ok (.aload_n 0, 1) := by decide +kernel
theorem dX1_init_17 : decode cX1_init 17 = .ok (.bipush 8, 2) := by decide +kernel
theorem dX1_init_19 : decode cX1_init 19 = .ok (.newarray .long, 2) := by decide +kernel
theorem dX1_init_21 : decode cX1_init 21 = .ok (.putfield 16, 3) := by decide +kernel
theorem dX1_init_24 : decode cX1_init 24 = .ok (.return_, 1) := by decide +kernel
theorem dX2_init_0 : decode cX2_init 0 = .ok (.aload_n 0, 1) := by decide +kernel
theorem dX2_init_1 : decode cX2_init 1 = .ok (.invokespecial 3, 3) := by decide +kernel
theorem dX2_init_4 : decode cX2_init 4 = .ok (.aload_n 0, 1) := by decide +kernel
theorem dX2_init_5 : decode cX2_init 5 = .ok (.bipush 12, 2) := by decide +kernel
theorem dX2_init_7 : decode cX2_init 7 = .ok (.newarray .int, 2) := by decide +kernel
theorem dX2_init_9 : decode cX2_init 9 = .ok (.putfield 9, 3) := by decide +kernel
theorem dX2_init_12 : decode cX2_init 12 = .ok (.aload_n 0, 1) := by decide +kernel
theorem dX2_init_13 : decode cX2_init 13 = .ok (.bipush 12, 2) := by decide +kernel
theorem dX2_init_15 : decode cX2_init 15 = .ok (.newarray .int, 2) := by decide +kernel
theorem dX2_init_17 : decode cX2_init 17 = .ok (.putfield 15, 3) := by decide +kernel
theorem dX2_init_20 : decode cX2_init 20 = .ok (.aload_n 0, 1) := by decide +kernel
theorem dX2_init_21 : decode cX2_init 21 = .ok (.bipush 12, 2) := by decide +kernel
theorem dX2_init_23 : decode cX2_init 23 = .ok (.newarray .int, 2) := by decide +kernel
theorem dX2_init_25 : decode cX2_init 25 = .ok (.putfield 18, 3) := by decide +kernel
theorem dX2_init_28 : decode cX2_init 28 = .ok (.aload_n 0, 1) := by decide +kernel
theorem dX2_init_29 : decode cX2_init 29 = .ok (.bipush 12, 2) := by decide +kernel
theorem dX2_init_31 : decode cX2_init 31 = .ok (.newarray .int, 2) := by decide +kernel
theorem dX2_init_33 : decode cX2_init 33 = .ok (.putfield 21, 3) := by decide +kernel
theorem dX2_init_36 : decode cX2_init 36 = .ok (.aload_n 0, 1) := by decide +kernel
theorem dX2_init_37 : decode cX2_init 37 = .ok (.bipush 12, 2) := by decide +kernel
theorem dX2_init_39 : decode cX2_init 39 = .ok (.newarray .int, 2) := by decide +kernel
theorem dX2_init_41 : decode cX2_init 41 = .ok (.putfield 24, 3) := by decide +kernel
theorem dX2_init_44 : decode cX2_init 44 = .ok (.aload_n 0, 1) := by decide +kernel
theorem dX2_init_45 : decode cX2_init 45 = .ok (.bipush 36, 2) := by decide +kernel
theorem dX2_init_47 : decode cX2_init 47 = .ok (.newarray .int, 2) := by decide +kernel
theorem dX2_init_49 : decode cX2_init 49 = .ok (.putfield 27, 3) := by decide +kernel
theorem dX2_init_52 : decode cX2_init 52 = .ok (.aload_n 0, 1) := by decide +kernel
theorem dX2_init_53 : decode cX2_init 53 = .ok (.bipush 36, 2) := by decide +kernel
theorem dX2_init_55 : decode cX2_init 55 = .ok (.newarray .int, 2) := by decide +kernel
theorem dX2_init_57 : decode cX2_init 57 = .ok (.putfield 30, 3) := by decide +kernel
theorem dX2_init_60 : decode cX2_init 60 = .ok (.return_, 1) := by decide +kernel
theorem dX3_init_0 : decode cX3_init 0 = .ok (.aload_n 0, 1) := by decide +kernel
theorem dX3_init_1 : decode cX3_init 1 = .ok (.invokespecial 3, 3) := by decide +kernel
theorem dX3_init_4 : decode cX3_init 4 = .ok (.aload_n 0, 1) := by decide +kernel
theorem dX3_init_5 : decode cX3_init 5 = .ok (.bipush 12, 2) := by decide +kernel
theorem dX3_init_7 : decode cX3_init 7 = .ok (.newarray .int, 2) := by decide +kernel
theorem dX3_init_9 : decode cX3_init 9 = .ok (.putfield 9, 3) := by decide +kernel
theorem dX3_init_12 : decode cX3_init 12 = .ok (.aload_n 0, 1) := by decide +kernel
theorem dX3_init_13 : decode cX3_init 13 = .ok (.new 15, 3) := by decide +kernel
theorem dX3_init_16 : decode cX3_init 16 = .ok (.dup, 1) := by decide +kernel
theorem dX3_init_17 : decode cX3_init 17 = .ok (.invokespecial 17, 3) := by decide +kernel
theorem dX3_init_20 : decode cX3_init 20 = .ok (.putfield 18, 3) := by decide +kernel
theorem dX3_init_23 : decode cX3_init 23 = .ok (.aload_n 0, 1) := by decide +kernel
theorem dX3_init_24 : decode cX3_init 24 = .ok (.new 15, 3) := by decide +kernel
theorem dX3_init_27 : decode cX3_init 27 = .ok (.dup, 1) := by decide +kernel
theorem dX3_init_28 : decode cX3_init 28 = .ok (.invokespecial 17, 3) := by decide +kernel
theorem dX3_init_31 : decode cX3_init 31 = .ok (.putfield 22, 3) := by decide +kernel
theorem dX3_init_34 : decode cX3_init 34 = .ok (.aload_n 0, 1) := by decide +kernel
theorem dX3_init_35 : decode cX3_init 35 = .ok (.bipush 12, 2) := by decide +kernel
theorem dX3_init_37 : decode cX3_init 37 = .ok (.newarray .int, 2) := by decide +kernel
theorem dX3_init_39 : decode cX3_init 39 = .ok (.putfield 25, 3) := by decide +kernel
theorem dX3_init_42 : decode cX3_init 42 = .ok (.aload_n 0, 1) := by decide +kernel
theorem dX3_init_43 : decode cX3_init 43 = .ok (.bipush 12, 2) := by decide +kernel
theorem dX3_init_45 : decode cX3_init 45 = .ok (.newarray .int, 2) := by decide +kernel
theorem dX3_init_47 : decode cX3_init 47 = .ok (.putfield 28, 3) := by decide +kernel
theorem dX3_init_50 : decode cX3_init 50 = .ok (.aload_n 0, 1) := by decide +kernel
theorem dX3_init_51 : decode cX3_init 51 = .ok (.aload_n 1, 1) := by decide +kernel
theorem dX3_init_52 : decode cX3_init 52 = .ok (.putfield 31, 3) := by decide +kernel
theorem dX3_init_55 : decode cX3_init 55 = .ok (.aload_n 0, 1) := by decide +kernel
theorem dX3_init_56 : decode cX3_init 56 = .ok (.aload_n 2, 1) := by decide +kernel
theorem dX3_init_57 : decode cX3_init 57 = .ok (.putfield 35, 3) := by decide +kernel
theorem dX3_init_60 : decode cX3_init 60 = .ok (.return_, 1) := by decide +kernel
theorem dX5_init_0 : decode cX5_init 0 = .ok (.aload_n 0, 1) := by decide +kernel
theorem dX5_init_1 : decode cX5_init 1 = .ok (.invokespecial 3, 3) := by decide +kernel
theorem dX5_init_4 : decode cX5_init 4 = .ok (.aload_n 0, 1) := by decide +kernel
theorem dX5_init_5 : decode cX5_init 5 = .ok (.aload_n 1, 1) := by decide +kernel
theorem dX5_init_6 : decode cX5_init 6 = .ok (.putfield 9, 3) := by decide +kernel
theorem dX5_init_9 : decode cX5_init 9 = .ok (.return_, 1) := by decide +kernel
theorem dX6_init_0 : decode cX6_init 0 = .ok (.aload_n 0, 1) := by decide +kernel
theorem dX6_init_1 : decode cX6_init 1 = .ok (.invokespecial 3, 3) := by decide +kernel
theorem dX6_init_4 : decode cX6_init 4 = .ok (.aload_n 0, 1) := by decide +kernel
theorem dX6_init_5 : decode cX6_init 5 = .ok (.bipush 12, 2) := by decide +kernel
theorem dX6_init_7 : decode cX6_init 7 = .ok (.newarray .int, 2) := by decide +kernel
theorem dX6_init_9 : decode cX6_init 9 = .ok (.putfield 9, 3) := by decide +kernel
theorem dX6_init_12 : decode cX6_init 12 = .ok (.aload_n 0, 1) := by decide +kernel
theorem dX6_init_13 : decode cX6_init 13 = .ok (.bipush 12, 2) := by decide +kernel
theorem dX6_init_15 : decode cX6_init 15 = .ok (.newarray .long, 2) := by decide +kernel
theorem dX6_init_17 : decode cX6_init 17 = .ok (.putfield 15, 3) := by decide +kernel
theorem dX6_init_20 : decode cX6_init 20 = .ok (.aload_n 0, 1) := by decide +kernel
theorem dX6_init_21 : decode cX6_init 21 = .ok (.aload_n 1, 1) := by decide +kernel
theorem dX6_init_22 : decode cX6_init 22 = .ok (.putfield 19, 3) := by decide +kernel
theorem dX6_init_25 : decode cX6_init 25 = .ok (.aload_n 0, 1) := by decide +kernel
theorem dX6_init_26 : decode cX6_init 26 = .ok (.new 23, 3) := by decide +kernel
theorem dX6_init_29 : decode cX6_init 29 = .ok (.dup, 1) := by decide +kernel
theorem dX6_init_30 : decode cX6_init 30 = .ok (.aload_n 1, 1) := by decide +kernel
theorem dX6_init_31 : decode cX6_init 31 = .ok (.invokespecial 25, 3) := by decide +kernel
theorem dX6_init_34 : decode cX6_init 34 = .ok (.putfield 28, 3) := by decide +kernel
theorem dX6_init_37 : decode cX6_init 37 = .ok (.return_, 1) := by decide +kernel
theorem dX7_init_0 : decode cX7_init 0 = .ok (.aload_n 0, 1) := by decide +kernel
theorem dX7_init_1 : decode cX7_init 1 = .ok (.invokespecial 3, 3) := by decide +kernel
theorem dX7_init_4 : decode cX7_init 4 = .ok (.aload_n 0, 1) := by decide +kernel
theorem dX7_init_5 : decode cX7_init 5 = .ok (.bipush 8, 2) := by decide +kernel
theorem dX7_init_7 : decode cX7_init 7 = .ok (.newarray .int, 2) := by decide +kernel
theorem dX7_init_9 : decode cX7_init 9 = .ok (.putfield 9, 3) := by decide +kernel
theorem dX7_init_12 : decode cX7_init 12 = .ok (.aload_n 0, 1) := by decide +kernel
theorem dX7_init_13 : decode cX7_init 13 = .ok (.bipush 8, 2) := by decide +kernel
theorem dX7_init_15 : decode cX7_init 15 = .ok (.newarray .int, 2) := by decide +kernel
theorem dX7_init_17 : decode cX7_init 17 = .ok (.putfield 15, 3) := by decide +kernel
theorem dX7_init_20 : decode cX7_init 20 = .ok (.aload_n 0, 1) := by decide +kernel
theorem dX7_init_21 : decode cX7_init 21 = .ok (.bipush 8, 2) := by decide +kernel
theorem dX7_init_23 : decode cX7_init 23 = .ok (.newarray .int, 2) := by decide +kernel
theorem dX7_init_25 : decode cX7_init 25 = .ok (.putfield 18, 3) := by decide +kernel
theorem dX7_init_28 : decode cX7_init 28 = .ok (.aload_n 0, 1) := by decide +kernel
theorem dX7_init_29 : decode cX7_init 29 = .ok (.bipush 8, 2) := by decide +kernel
theorem dX7_init_31 : decode cX7_init 31 = .ok (.newarray .int, 2) := by decide +kernel
theorem dX7_init_33 : decode cX7_init 33 = .ok (.putfield 21, 3) := by decide +kernel
theorem dX7_init_36 : decode cX7_init 36 = .ok (.return_, 1) := by decide +kernel
theorem dX8_init_0 : decode cX8_init 0 = .ok (.aload_n 0, 1) := by decide +kernel
theorem dX8_init_1 : decode cX8_init 1 = .ok (.invokespecial 3, 3) := by decide +kernel
theorem dX8_init_4 : decode cX8_init 4 = .ok (.aload_n 0, 1) := by decide +kernel
theorem dX8_init_5 : decode cX8_init 5 = .ok (.sipush 440, 3) := by decide +kernel
theorem dX8_init_8 : decode cX8_init 8 = .ok (.newarray .int, 2) := by decide +kernel
theorem dX8_init_10 : decode cX8_init 10 = .ok (.putfield 9, 3) := by decide +kernel
theorem dX8_init_13 : decode cX8_init 13 = .ok (.return_, 1) := by decide +kernel
theorem dX9_init_0 : decode cX9_init 0 = .ok (.aload_n 0, 1) := by decide +kernel
theorem dX9_init_1 : decode cX9_init 1 = .ok (.invokespecial 3, 3) := by decide +kernel
theorem dX9_init_4 : decode cX9_init 4 = .ok (.aload_n 0, 1) := by decide +kernel
theorem dX9_init_5 : decode cX9_init 5 = .ok (.sipush 700, 3) := by decide +kernel
theorem dX9_init_8 : decode cX9_init 8 = .ok (.newarray .int, 2) := by decide +kernel
theorem dX9_init_10 : decode cX9_init 10 = .ok (.putfield 9, 3) := by decide +kernel
theorem dX9_init_13 : decode cX9_init 13 = .ok (.return_, 1) := by decide +kernel
def tk_P (comp : ClassId) : Class → Bool := fun x => match x.kind with | .array component _ => component == comp | _ => false
theorem tk_bare (vm : Vm) (comp : ClassId) : vm.bare.classes.findIdx? (tk_P comp) = vm.classes.findIdx? (tk_P comp) := by
  simp only [Vm.bare, Array.findIdx?_map]
  rfl
theorem va_AOA.spec {t : FieldType} {s : State} (h : va_AOA t s) : ∃ comp c k, s.vm.findClass (FieldType.array t).toString = some comp ∧ s.vm.classes.findIdx? (tk_P comp) = some c ∧ s.vm.classes[c]? = some k ∧ k.kind = .array comp (.array t) ∧ s.vm.findClass ("[" ++ (FieldType.array t).toString) = some c := by
  unfold va_AOA at h
  simp only [Cond.before, Cond.holds, Cond.value, beq_iff_eq] at h
  cases hc : s.vm.findClass (FieldType.array t).toString with
  | none => simp [hc] at h
  | some comp =>
    simp only [hc, Option.bind_some, Option.bind_eq_some_iff, Option.map_eq_some_iff] at h
    obtain ⟨c, hi, k, hk, hb⟩ := h
    obtain ⟨hlt, hp, -⟩ := Array.findIdx?_eq_some_iff_getElem.mp hi
    have hkk : s.vm.classes[c] = k := (Array.getElem?_eq_some_iff.mp hk).2
    rw [hkk] at hp
    cases hkind : k.kind with
    | array component ty =>
      rw [hkind] at hb hp
      simp at hb hp
      exact ⟨comp, c, k, rfl, hi, hk, by rw [hkind, hp, hb.1], hb.2⟩
    | _ => rw [hkind] at hb; simp at hb
theorem va_AOA.moved {t : FieldType} {u U : State} (hvm : u.vm.Alike U.vm) (h : va_AOA t u) : va_AOA t U := by
  obtain ⟨comp, c, k, h1, h2, h3, h4, h5⟩ := va_AOA.spec h
  obtain ⟨k', hk', he⟩ := hvm.2.2 _ _ h3
  have hi : U.vm.classes.findIdx? (tk_P comp) = some c := by
    rw [← tk_bare]
    first | rw [hvm.bare_eq] | rw [← hvm.bare_eq]
    rw [tk_bare]
    exact h2
  have hkind : k'.kind = .array comp (.array t) := by rw [he]; exact h4
  have f1 : U.vm.findClass (FieldType.array t).toString = some comp := by rw [hvm.findClass]; exact h1
  have f2 : U.vm.findClass ("[" ++ (FieldType.array t).toString) = some c := by rw [hvm.findClass]; exact h5
  unfold va_AOA Cond.before Cond.holds
  simp only [Cond.value]
  rw [f1, Option.bind_some]
  refine (congrArg (fun o : Option Nat => (o.bind (fun c => (U.vm.classes[c]?).map fun (k : Class) => match k.kind with | .array _ ty => decide (ty = FieldType.array t) && decide (U.vm.findClass ("[" ++ (FieldType.array t).toString) = some c) | _ => false) == some true)) hi).trans ?_
  simp [hk', hkind, f2]
/-- what the constructors need beside the good words: arrays of nets, of rows; links into the nest; the five constant texts -/
def ZI (sa sv : Nat → Nat) (ff : Nat → Nat → Int32) (A : Nat → Prop) (U : State) (H : Heap) : Prop := va_AO RX2 U ∧ va_AOA .long U ∧ va_Nw (.methodLinkNest RX0 11 yX1_init "ChanceRings") U ∧ va_Nw (.methodLinkNest RX3 17 yX10_init "ChanceRings") U ∧ va_Nw (.methodLinkNest RX4 21 yX11_pack "ChanceRings") U ∧ va_Nw (.methodLinkNest RX11 9 yX8_init "ChanceRings") U ∧ va_Nw (.methodLinkNest RX11 18 yX2_init "ChanceRings") U ∧ va_Nw (.methodLinkNest RX11 45 yX7_init "ChanceRings") U ∧ va_Nw (.methodLinkNest RX11 52 yX9_init "ChanceRings") U ∧ va_Nw (.methodLinkNest RX11 88 yX10_init "ChanceRings") U ∧ (vk_R RX4 19 "end" (sa 0) U ∧ tStr (sa 0) (sv 0) 3 (ff 0) A U H) ∧ (vk_R RX4 25 "max" (sa 1) U ∧ tStr (sa 1) (sv 1) 3 (ff 1) A U H) ∧ (vk_R RX4 27 "min" (sa 2) U ∧ tStr (sa 2) (sv 2) 3 (ff 2) A U H) ∧ (vk_R RX4 29 "chance" (sa 3) U ∧ tStr (sa 3) (sv 3) 6 (ff 3) A U H) ∧ (vk_R RX4 35 "way" (sa 4) U ∧ tStr (sa 4) (sv 4) 3 (ff 4) A U H)
theorem ZI.same {sa sv : Nat → Nat} {ff : Nat → Nat → Int32} {A : Nat → Prop} {u U : State} {H : Heap} (h : ZI sa sv ff A u H) (e : u.vm = U.vm) : ZI sa sv ff A U H := by
  obtain ⟨h0, h1, h2, h3, h4, h5, h6, h7, h8, h9, ⟨h10, h10b⟩, ⟨h11, h11b⟩, ⟨h12, h12b⟩, ⟨h13, h13b⟩, ⟨h14, h14b⟩⟩ := h
  have al : u.vm.Alike U.vm := by rw [e]; exact Vm.Alike.refl _
  exact ⟨va_AO.moved al h0, va_AOA.moved al h1, va_Nw.same rfl e h2, va_Nw.same rfl e h3, va_Nw.same rfl e h4, va_Nw.same rfl e h5, va_Nw.same rfl e h6, va_Nw.same rfl e h7, va_Nw.same rfl e h8, va_Nw.same rfl e h9, ⟨vk_R.same e.symm h10, h10b.moved al⟩, ⟨vk_R.same e.symm h11, h11b.moved al⟩, ⟨vk_R.same e.symm h12, h12b.moved al⟩, ⟨vk_R.same e.symm h13, h13b.moved al⟩, ⟨vk_R.same e.symm h14, h14b.moved al⟩⟩
theorem ZI.warm {sa sv : Nat → Nat} {ff : Nat → Nat → Int32} {A : Nat → Prop} {s U : State} {H : Heap} (h : ZI sa sv ff A s H) (hW : s.WarmedH U.vm) : ZI sa sv ff A U H := by
  obtain ⟨h0, h1, h2, h3, h4, h5, h6, h7, h8, h9, ⟨h10, h10b⟩, ⟨h11, h11b⟩, ⟨h12, h12b⟩, ⟨h13, h13b⟩, ⟨h14, h14b⟩⟩ := h
  exact ⟨va_AO.moved hW.alike h0, va_AOA.moved hW.alike h1, va_Nw.warmM hW h2, va_Nw.warmM hW h3, va_Nw.warmM hW h4, va_Nw.warmM hW h5, va_Nw.warmM hW h6, va_Nw.warmM hW h7, va_Nw.warmM hW h8, va_Nw.warmM hW h9, ⟨vk_R.warm hW h10, h10b.moved hW.alike⟩, ⟨vk_R.warm hW h11, h11b.moved hW.alike⟩, ⟨vk_R.warm hW h12, h12b.moved hW.alike⟩, ⟨vk_R.warm hW h13, h13b.moved hW.alike⟩, ⟨vk_R.warm hW h14, h14b.moved hW.alike⟩⟩
theorem ZI.kept {sa sv : Nat → Nat} {ff : Nat → Nat → Int32} {A B : Nat → Prop} {s : State} {H0 H : Heap} {locs : List Loc} (h : ZI sa sv ff A s H0) (hS : va_S A H0 H locs) (hB : ∀ q, B q → A q) : ZI sa sv ff B s H := by
  obtain ⟨h0, h1, h2, h3, h4, h5, h6, h7, h8, h9, ⟨h10, h10b⟩, ⟨h11, h11b⟩, ⟨h12, h12b⟩, ⟨h13, h13b⟩, ⟨h14, h14b⟩⟩ := h
  exact ⟨h0, h1, h2, h3, h4, h5, h6, h7, h8, h9, ⟨h10, (h10b.kept hS.2.1).narrow hB⟩, ⟨h11, (h11b.kept hS.2.1).narrow hB⟩, ⟨h12, (h12b.kept hS.2.1).narrow hB⟩, ⟨h13, (h13b.kept hS.2.1).narrow hB⟩, ⟨h14, (h14b.kept hS.2.1).narrow hB⟩⟩
theorem tz_blI {D : va_G} {av : List Value} {w : va_W} {tys : List (ClassId × FieldType)} {sz : Nat} {A : Nat → Prop} {sa sv : Nat → Nat} {ff : Nat → Nat → Int32} : FrameBlind (va_Pc av (fun U => U.heap.size = sz ∧ va_P D vwCl w U.heap ∧ va_K D vwCl tys U ∧ va_D (fun _ => True) w ∧ ZI sa sv ff A U U.heap)) := fun a U g mk q => by
  obtain ⟨q0, q1, qP, qK, qD, qZ⟩ := q
  exact ⟨q0, q1, qP, va_K.moved (u := U) (U := U.calling g mk a) (Vm.Alike.refl U.vm) qK, qD, ZI.same (u := U) (U := U.calling g mk a) qZ rfl⟩
theorem tz_preI {D : va_G} {s : State} {H : Heap} {w : va_W} {tys : List (ClassId × FieldType)} {av : List Value} {A B : Nat → Prop} {sa sv : Nat → Nat} {ff : Nat → Nat → Int32} (hP : va_P D vwCl w H) (hK : va_K D vwCl tys s) (hD : va_D A w) (hZ : ZI sa sv ff B s H) : ∀ U : State, U.heap = H → s.WarmedH U.vm → va_Pc av (fun U => U.heap.size = H.size ∧ va_P D vwCl w U.heap ∧ va_K D vwCl tys U ∧ va_D (fun _ => True) w ∧ ZI sa sv ff B U U.heap) av.toArray U := fun U hU hW => ⟨rfl, by rw [hU], by rw [hU]; exact hP, va_K.moved hW.alike hK, hD.weaken (fun _ _ _ _ => trivial), by rw [hU]; exact hZ.warm hW⟩
theorem tz_clsI {D : va_G} {g : Nat → ClassId} {s : State} {cA : ClassId} (h : va_K D vwCl (TY g) s) (h9 : va_K D vwCl (TY g ++ [(cA, .int)]) s) : cA = g 0 := Option.some.inj ((h9.2 6 _ rfl).2.symm.trans (h.2 0 _ rfl).2)
theorem tz_clsJ {D : va_G} {g : Nat → ClassId} {s : State} {cA : ClassId} (h : va_K D vwCl (TY g) s) (h9 : va_K D vwCl (TY g ++ [(cA, .long)]) s) : cA = g 1 := Option.some.inj ((h9.2 6 _ rfl).2.symm.trans (h.2 1 _ rfl).2)
theorem tz_clsB {D : va_G} {g : Nat → ClassId} {s : State} {cA : ClassId} (h : va_K D vwCl (TY g) s) (h9 : va_K D vwCl (TY g ++ [(cA, .byte)]) s) : cA = g 2 := Option.some.inj ((h9.2 6 _ rfl).2.symm.trans (h.2 2 _ rfl).2)
theorem tz_clsZ {D : va_G} {g : Nat → ClassId} {s : State} {cA : ClassId} (h : va_K D vwCl (TY g) s) (h9 : va_K D vwCl (TY g ++ [(cA, .boolean)]) s) : cA = g 3 := Option.some.inj ((h9.2 6 _ rfl).2.symm.trans (h.2 3 _ rfl).2)
theorem tz_clsR {D : va_G} {g : Nat → ClassId} {s : State} {cA : ClassId} (h : va_K D vwCl (TY g) s) (h9 : va_K D vwCl (TY g ++ [(cA, .array .long)]) s) : cA = g 5 := Option.some.inj ((h9.2 6 _ rfl).2.symm.trans (h.2 5 _ rfl).2)
theorem tz_clsN {D : va_G} {g : Nat → ClassId} {s : State} {cA : ClassId} (h : va_K D vwCl (TY g) s) (h9 : va_K D vwCl (TY g ++ [(cA, .object RX2)]) s) : cA = g 4 := by
  obtain ⟨k1, c1, -, -, -, e1⟩ := (h9.2 6 _ rfl).2
  obtain ⟨k2, c2, -, -, -, e2⟩ := (h.2 4 _ rfl).2
  exact Option.some.inj (e1.symm.trans e2)
theorem tz_pool {f : Nat → va_E} {v : va_E} {r : Nat → Nat} {n : Nat} : va_pl ([] ++ (List.range n).map r) (vr_up f ((List.range n).map r) v) = (List.range n).map (fun i => (r i, v)) := by
  rw [List.nil_append]
  unfold va_pl
  rw [List.map_map]
  apply List.map_congr_left
  intro a ha
  show (r a, vr_up f _ v (r a)) = (r a, v)
  rw [vr_up_in (List.mem_map.mpr ⟨a, ha, rfl⟩)]
theorem tz_inner (c : ClassId) (n : Nat) : Jvm.Free.Multi.innerC c n (defaultValue .long) = vp_cell c (n, .inr (.inl (fun _ => 0))) := by
  show ({ cls := c, slots := Array.replicate n (.long 0), vm := .none } : Cell) = _
  rw [arrV_new, vp_cell_l]
theorem qJJ_RX1 : Cond.classLink RX1 9 ("[" ++ (FieldType.array .long).toString) ∈ wsL_law := tseg_2 (by decide +kernel) (List.mem_of_getElem? (i := 35) (by decide +kernel))
theorem qJJ_RX12 : Cond.classLink RX12 53 ("[" ++ (FieldType.array .long).toString) ∈ wsL_law := tseg_5 (by decide +kernel) (List.mem_of_getElem? (i := 126) (by decide +kernel))
theorem hfs_X0 : ∀ j, j < 3 → defaultValue (tyX0 j) = vp_V [.null, .null, .null] j := by
  intro j hj
  rcases (show j = 0 ∨ j = 1 ∨ j = 2 by omega) with rfl | rfl | rfl <;> rfl
theorem hfs_X1 : ∀ j, j < 3 → defaultValue (tyX1 j) = vp_V [.null, .null, .long 0] j := by
  intro j hj
  rcases (show j = 0 ∨ j = 1 ∨ j = 2 by omega) with rfl | rfl | rfl <;> rfl
theorem hfs_X2 : ∀ j, j < 8 → defaultValue (tyX2 j) = vp_V [.int 0, .null, .null, .null, .null, .null, .null, .null] j := by
  intro j hj
  rcases (show j = 0 ∨ j = 1 ∨ j = 2 ∨ j = 3 ∨ j = 4 ∨ j = 5 ∨ j = 6 ∨ j = 7 by omega) with rfl | rfl | rfl | rfl | rfl | rfl | rfl | rfl <;> rfl
theorem hfs_X3 : ∀ j, j < 10 → defaultValue (tyX3 j) = vp_V [.null, .null, .null, .null, .null, .null, .null, .int 0, .int 0, .int 0] j := by
  intro j hj
  rcases (show j = 0 ∨ j = 1 ∨ j = 2 ∨ j = 3 ∨ j = 4 ∨ j = 5 ∨ j = 6 ∨ j = 7 ∨ j = 8 ∨ j = 9 by omega) with rfl | rfl | rfl | rfl | rfl | rfl | rfl | rfl | rfl | rfl <;> rfl
theorem hfs_X4 : ∀ j, j < 10 → defaultValue (tyX4 j) = vp_V [.null, .null, .null, .int 0, .int 0, .int 0, .int 0, .int 0, .int 0, .int 0] j := by
  intro j hj
  rcases (show j = 0 ∨ j = 1 ∨ j = 2 ∨ j = 3 ∨ j = 4 ∨ j = 5 ∨ j = 6 ∨ j = 7 ∨ j = 8 ∨ j = 9 by omega) with rfl | rfl | rfl | rfl | rfl | rfl | rfl | rfl | rfl | rfl <;> rfl
theorem hfs_X5 : ∀ j, j < 1 → defaultValue (tyX5 j) = vp_V [.null] j := by
  intro j hj
  obtain rfl : j = 0 := by omega
  rfl
theorem hfs_X6 : ∀ j, j < 4 → defaultValue (tyX6 j) = vp_V [.null, .null, .null, .null] j := by
  intro j hj
  rcases (show j = 0 ∨ j = 1 ∨ j = 2 ∨ j = 3 by omega) with rfl | rfl | rfl | rfl <;> rfl
theorem hfs_X7 : ∀ j, j < 5 → defaultValue (tyX7 j) = vp_V [.null, .null, .null, .null, .int 0] j := by
  intro j hj
  rcases (show j = 0 ∨ j = 1 ∨ j = 2 ∨ j = 3 ∨ j = 4 by omega) with rfl | rfl | rfl | rfl | rfl <;> rfl
theorem hfs_X8 : ∀ j, j < 2 → defaultValue (tyX8 j) = vp_V [.null, .int 0] j := by
  intro j hj
  rcases (show j = 0 ∨ j = 1 by omega) with rfl | rfl <;> rfl
theorem hfs_X9 : ∀ j, j < 2 → defaultValue (tyX9 j) = vp_V [.null, .int 0] j := by
  intro j hj
  rcases (show j = 0 ∨ j = 1 by omega) with rfl | rfl <;> rfl
theorem hfs_X10 : ∀ j, j < 2 → defaultValue (tyX10 j) = vp_V [.null, .long 0] j := by
  intro j hj
  rcases (show j = 0 ∨ j = 1 by omega) with rfl | rfl <;> rfl
theorem hfs_X11 : ∀ j, j < 18 → defaultValue (tyX11 j) = vp_V [.null, .null, .null, .null, .null, .null, .null, .null, .null, .null, .null, .null, .null, .int 0, .null, .null, .int 0, .null] j := by
  intro j hj
  rcases (show j = 0 ∨ j = 1 ∨ j = 2 ∨ j = 3 ∨ j = 4 ∨ j = 5 ∨ j = 6 ∨ j = 7 ∨ j = 8 ∨ j = 9 ∨ j = 10 ∨ j = 11 ∨ j = 12 ∨ j = 13 ∨ j = 14 ∨ j = 15 ∨ j = 16 ∨ j = 17 by omega) with rfl | rfl | rfl | rfl | rfl | rfl | rfl | rfl | rfl | rfl | rfl | rfl | rfl | rfl | rfl | rfl | rfl | rfl <;> rfl
theorem hfs_X12 : ∀ j, j < 35 → defaultValue (tyX12 j) = vp_V (.int 0 :: .null :: .null :: .null :: .null :: .null :: .null :: .int 0 :: .null :: .int 0 :: .int 0 :: .int 0 :: .int 0 :: .int 0 :: .int 0 :: .int 0 :: .int 0 :: .int 0 :: .null :: .int 0 :: .null :: .null :: .null :: .null :: .null :: .null :: .null :: .null :: .null :: .null :: .null :: .null :: .int 0 :: .null :: .int 0 :: []) j := by
  intro j hj
  rcases (show j = 0 ∨ j = 1 ∨ j = 2 ∨ j = 3 ∨ j = 4 ∨ j = 5 ∨ j = 6 ∨ j = 7 ∨ j = 8 ∨ j = 9 ∨ j = 10 ∨ j = 11 ∨ j = 12 ∨ j = 13 ∨ j = 14 ∨ j = 15 ∨ j = 16 ∨ j = 17 ∨ j = 18 ∨ j = 19 ∨ j = 20 ∨ j = 21 ∨ j = 22 ∨ j = 23 ∨ j = 24 ∨ j = 25 ∨ j = 26 ∨ j = 27 ∨ j = 28 ∨ j = 29 ∨ j = 30 ∨ j = 31 ∨ j = 32 ∨ j = 33 ∨ j = 34 by omega) with rfl | rfl | rfl | rfl | rfl | rfl | rfl | rfl | rfl | rfl | rfl | rfl | rfl | rfl | rfl | rfl | rfl | rfl | rfl | rfl | rfl | rfl | rfl | rfl | rfl | rfl | rfl | rfl | rfl | rfl | rfl | rfl | rfl | rfl | rfl <;> rfl
set_option maxHeartbeats 4000000 in
set_option maxRecDepth 100000 in
theorem c_X8_init (l : Launch) (D : va_G) (g : Nat → ClassId) (sz : Nat) (ka kv : Nat → Nat) (ff : Nat → Nat → Int32) (tp : Nat) : Met l yX8_init (.code yX8_init cX8_init 1 none :: wsL_law) ({ frames := 1, cells := 1, slots := 440, locals := 12 }) (va_Pc [.ref tp] (fun U => U.heap.size = sz ∧ va_P D vwCl [(tp, .inr (8, [.null, .int 0]))] U.heap ∧ va_K D vwCl (TY g) U ∧ va_D (fun _ => True) [(tp, .inr (8, [.null, .int 0]))] ∧ ZI ka kv ff (va_A [(tp, .inr (8, [.null, .int 0]))] sz) U U.heap)) (va_Qv (fun (_ : Unit) => True) (fun _ t => ∃ tp_bytes : Nat, va_P D vwCl [(wO8 tp tp_bytes 0), (wI g tp_bytes 0 440 (fun _ => 0))] t.heap ∧ va_D (va_A [(tp, .inr (8, [.null, .int 0]))] sz) [(wO8 tp tp_bytes 0), (wI g tp_bytes 0 440 (fun _ => 0))]) (va_A [(tp, .inr (8, [.null, .int 0]))] sz)) 1 440 (va_A [(tp, .inr (8, [.null, .int 0]))] sz) := by
  refine Met.ofW (cc := cX8_init) (maxL := 1) (ret := none) (by decide) rfl ?_
  intro p e s m args below meth c s₁ B hml hv
  obtain ⟨rfl, hsz, hP, hK, hD0, hZ⟩ := hv
  have hx := B.exec
  have hb := B.bytes
  have hr := B.returns
  have hts0 := atoms_spec (ws := (.code yX8_init cX8_init 1 none :: wsL_law)) B.pre
  have hts : ∀ w ∈ wsL_law, w.before _ s = true := fun w h => hts0 w (List.mem_cons_of_mem _ h)
  have hown : s.vm.findClass RX8 = some m.cls := findClass_of_methodNamed B.named
  have hlocks := B.notSynchronized
  have hin : meth.name = "<init>" := (name_of_methodNamed B.named B.method).1
  subst hsz
  have hD := hD0.self (sz := s.heap.size)
  generalize hAe : va_A [(tp, .inr (8, [.null, .int 0]))] s.heap.size = A at hD hZ ⊢
  have hA : ∀ q : Nat, s.heap.size ≤ q → A q := fun q h => by rw [← hAe]; exact Or.inr h
  have hS : va_S A s.heap s.heap [] := va_S.rf
  have hP : va_P D vwCl [(tp, .inr (8, [.null, .int 0]))] s.heap := hP
  have hl := lv_entry ([.ref tp]) (n := 1) (Nat.le_of_ble_eq_true rfl)
  rw [lg_entry_eq]
  generalize (lg_sl ([.ref tp]) ++ List.replicate (1 - (lg_sl ([.ref tp])).length) Slot.unset).toArray = ls at hl ⊢
  have hl : lv_has ls 1 [(0, .ref tp)] := hl
  refine lv_aload_n hx hb dX8_init_0 rfl (lv_at hl 0 rfl) ?_
  refine W.objInit hx hb hown (hts (Cond.methodLink RX8 3 objectInit) qw_910) (hts (Cond.instanceMethod objectInit) qw_911) (hts (Cond.code objectInit ⟨#[0xb1]⟩ 1 none) qw_912) rfl (by rw [hml]; exact hl.1) rfl dX8_init_1 (Nat.le_of_ble_eq_true rfl) (Nat.le_of_ble_eq_true rfl) ?_
  refine W.eq (g2 := F0 m 4 ls []) rfl ?_
  refine lv_aload_n hx hb dX8_init_4 rfl (lv_at hl 0 rfl) ?_
  refine lv_sipush (v := 440) hx hb dX8_init_5 (by decide) ?_
  refine va_newa (atype := .int) (ty := .int) (N' := 440) (a0 := (440, .inl (fun _ => 0))) hx hb (hts (Cond.arrayClass .int) qw_913) rfl hK hP hD hS hA (fun _ => rfl) (by decide) (by decide +kernel) (by decide) (Nat.le_of_ble_eq_true rfl) (Nat.le_of_ble_eq_true rfl) dX8_init_8 (fun q_117748 cA H hK9 hP hD hS => ?_)
  obtain rfl : cA = g 0 := tz_clsI hK hK9
  have hP : va_P D vwCl [(tp, .inr (8, [.null, .int 0])), (wI g q_117748 0 440 (fun _ => 0))] H := hP
  have hD : va_D A [(tp, .inr (8, [.null, .int 0])), (wI g q_117748 0 440 (fun _ => 0))] := hD
  refine W.widen (k := 1) (n := 440) (by decide) (by decide) ?_
  refine va_putF (D := D) (ci := 8) (v := .ref q_117748) (ty := .array .int) (C := RX8) (T := TX8) (N := 2) hx hb hts inlX8 tyX8 tyX8_ok nmX8 hown hK hP hD hS 0 rfl rfl 0 (by decide) (hts (Cond.fieldLink RX8 9 "ChanceRings$Tape" "bytes" "[I") qw_341) (fun _ h9 => h9) rfl hin rfl (by decide +kernel) rfl rfl (Nat.le_of_ble_eq_true rfl) dX8_init_10 (fun H locs hP hD hS => ?_)
  have hP : va_P D vwCl [(wO8 tp q_117748 0), (wI g q_117748 0 440 (fun _ => 0))] H := hP
  have hD : va_D A [(wO8 tp q_117748 0), (wI g q_117748 0 440 (fun _ => 0))] := hD
  have hP9 := hP.sub (ws' := [(wO8 tp q_117748 0), (wI g q_117748 0 440 (fun _ => 0))]) [0, 1] rfl
  have hD9 := hD.sub (ws' := [(wO8 tp q_117748 0), (wI g q_117748 0 440 (fun _ => 0))]) [0, 1] (by decide) rfl
  exact W.vret hx hb hr (fun t ht hW => ⟨⟨(), rfl, trivial, q_117748, by rw [ht]; exact hP9, hD9⟩, hS.F ht⟩) hS.2.2 dX8_init_13
set_option maxHeartbeats 4000000 in
set_option maxRecDepth 100000 in
theorem c_X2_init (l : Launch) (D : va_G) (g : Nat → ClassId) (sz : Nat) (ka kv : Nat → Nat) (ff : Nat → Nat → Int32) (n : Nat) : Met l yX2_init (.code yX2_init cX2_init 1 none :: wsL_law) ({ frames := 1, cells := 7, slots := 132, locals := 12 }) (va_Pc [.ref n] (fun U => U.heap.size = sz ∧ va_P D vwCl [(n, .inr (2, [.int 0, .null, .null, .null, .null, .null, .null, .null]))] U.heap ∧ va_K D vwCl (TY g) U ∧ va_D (fun _ => True) [(n, .inr (2, [.int 0, .null, .null, .null, .null, .null, .null, .null]))] ∧ ZI ka kv ff (va_A [(n, .inr (2, [.int 0, .null, .null, .null, .null, .null, .null, .null]))] sz) U U.heap)) (va_Qv (fun (_ : Unit) => True) (fun _ t => ∃ n_kind : Nat, ∃ n_pay : Nat, ∃ n_name : Nat, ∃ n_ways : Nat, ∃ n_held : Nat, ∃ n_targets : Nat, ∃ n_weights : Nat, va_P D vwCl [(wO2 n 0 n_kind n_pay n_name n_ways n_held n_targets n_weights), (wI g n_kind 0 12 (fun _ => 0)), (wI g n_pay 0 12 (fun _ => 0)), (wI g n_name 0 12 (fun _ => 0)), (wI g n_ways 0 12 (fun _ => 0)), (wI g n_held 0 12 (fun _ => 0)), (wI g n_targets 0 36 (fun _ => 0)), (wI g n_weights 0 36 (fun _ => 0))] t.heap ∧ va_D (va_A [(n, .inr (2, [.int 0, .null, .null, .null, .null, .null, .null, .null]))] sz) [(wO2 n 0 n_kind n_pay n_name n_ways n_held n_targets n_weights), (wI g n_kind 0 12 (fun _ => 0)), (wI g n_pay 0 12 (fun _ => 0)), (wI g n_name 0 12 (fun _ => 0)), (wI g n_ways 0 12 (fun _ => 0)), (wI g n_held 0 12 (fun _ => 0)), (wI g n_targets 0 36 (fun _ => 0)), (wI g n_weights 0 36 (fun _ => 0))]) (va_A [(n, .inr (2, [.int 0, .null, .null, .null, .null, .null, .null, .null]))] sz)) 7 132 (va_A [(n, .inr (2, [.int 0, .null, .null, .null, .null, .null, .null, .null]))] sz) := by
  refine Met.ofW (cc := cX2_init) (maxL := 1) (ret := none) (by decide) rfl ?_
  intro p e s m args below meth c s₁ B hml hv
  obtain ⟨rfl, hsz, hP, hK, hD0, hZ⟩ := hv
  have hx := B.exec
  have hb := B.bytes
  have hr := B.returns
  have hts0 := atoms_spec (ws := (.code yX2_init cX2_init 1 none :: wsL_law)) B.pre
  have hts : ∀ w ∈ wsL_law, w.before _ s = true := fun w h => hts0 w (List.mem_cons_of_mem _ h)
  have hown : s.vm.findClass RX2 = some m.cls := findClass_of_methodNamed B.named
  have hlocks := B.notSynchronized
  have hin : meth.name = "<init>" := (name_of_methodNamed B.named B.method).1
  subst hsz
  have hD := hD0.self (sz := s.heap.size)
  generalize hAe : va_A [(n, .inr (2, [.int 0, .null, .null, .null, .null, .null, .null, .null]))] s.heap.size = A at hD hZ ⊢
  have hA : ∀ q : Nat, s.heap.size ≤ q → A q := fun q h => by rw [← hAe]; exact Or.inr h
  have hS : va_S A s.heap s.heap [] := va_S.rf
  have hP : va_P D vwCl [(n, .inr (2, [.int 0, .null, .null, .null, .null, .null, .null, .null]))] s.heap := hP
  have hl := lv_entry ([.ref n]) (n := 1) (Nat.le_of_ble_eq_true rfl)
  rw [lg_entry_eq]
  generalize (lg_sl ([.ref n]) ++ List.replicate (1 - (lg_sl ([.ref n])).length) Slot.unset).toArray = ls at hl ⊢
  have hl : lv_has ls 1 [(0, .ref n)] := hl
  refine lv_aload_n hx hb dX2_init_0 rfl (lv_at hl 0 rfl) ?_
  refine W.objInit hx hb hown (hts (Cond.methodLink RX2 3 objectInit) qw_914) (hts (Cond.instanceMethod objectInit) qw_911) (hts (Cond.code objectInit ⟨#[0xb1]⟩ 1 none) qw_912) rfl (by rw [hml]; exact hl.1) rfl dX2_init_1 (Nat.le_of_ble_eq_true rfl) (Nat.le_of_ble_eq_true rfl) ?_
  refine W.eq (g2 := F0 m 4 ls []) rfl ?_
  refine lv_aload_n hx hb dX2_init_4 rfl (lv_at hl 0 rfl) ?_
  refine lv_bipush (v := 12) hx hb dX2_init_5 (by decide) ?_
  refine va_newa (atype := .int) (ty := .int) (N' := 12) (a0 := (12, .inl (fun _ => 0))) hx hb (hts (Cond.arrayClass .int) qw_913) rfl hK hP hD hS hA (fun _ => rfl) (by decide) (by decide +kernel) (by decide) (Nat.le_of_ble_eq_true rfl) (Nat.le_of_ble_eq_true rfl) dX2_init_7 (fun q_117749 cA H hK9 hP hD hS => ?_)
  obtain rfl : cA = g 0 := tz_clsI hK hK9
  have hP : va_P D vwCl [(n, .inr (2, [.int 0, .null, .null, .null, .null, .null, .null, .null])), (wI g q_117749 0 12 (fun _ => 0))] H := hP
  have hD : va_D A [(n, .inr (2, [.int 0, .null, .null, .null, .null, .null, .null, .null])), (wI g q_117749 0 12 (fun _ => 0))] := hD
  refine W.widen (k := 1) (n := 12) (by decide) (by decide) ?_
  refine va_putF (D := D) (ci := 2) (v := .ref q_117749) (ty := .array .int) (C := RX2) (T := TX2) (N := 8) hx hb hts inlX2 tyX2 tyX2_ok nmX2 hown hK hP hD hS 0 rfl rfl 1 (by decide) (hts (Cond.fieldLink RX2 9 "ChanceRings$Net" "kind" "[I") qw_316) (fun _ h9 => h9) rfl hin rfl (by decide +kernel) rfl rfl (Nat.le_of_ble_eq_true rfl) dX2_init_9 (fun H locs hP hD hS => ?_)
  have hP : va_P D vwCl [(n, .inr (2, [.int 0, .ref q_117749, .null, .null, .null, .null, .null, .null])), (wI g q_117749 0 12 (fun _ => 0))] H := hP
  have hD : va_D A [(n, .inr (2, [.int 0, .ref q_117749, .null, .null, .null, .null, .null, .null])), (wI g q_117749 0 12 (fun _ => 0))] := hD
  refine lv_aload_n hx hb dX2_init_12 rfl (lv_at hl 0 rfl) ?_
  refine lv_bipush (v := 12) hx hb dX2_init_13 (by decide) ?_
  refine va_newa (atype := .int) (ty := .int) (N' := 12) (a0 := (12, .inl (fun _ => 0))) hx hb (hts (Cond.arrayClass .int) qw_913) rfl hK hP hD hS hA (fun _ => rfl) (by decide) (by decide +kernel) (by decide) (Nat.le_of_ble_eq_true rfl) (Nat.le_of_ble_eq_true rfl) dX2_init_15 (fun q_117750 cA H hK9 hP hD hS => ?_)
  obtain rfl : cA = g 0 := tz_clsI hK hK9
  have hP : va_P D vwCl [(n, .inr (2, [.int 0, .ref q_117749, .null, .null, .null, .null, .null, .null])), (wI g q_117749 0 12 (fun _ => 0)), (wI g q_117750 0 12 (fun _ => 0))] H := hP
  have hD : va_D A [(n, .inr (2, [.int 0, .ref q_117749, .null, .null, .null, .null, .null, .null])), (wI g q_117749 0 12 (fun _ => 0)), (wI g q_117750 0 12 (fun _ => 0))] := hD
  refine W.widen (k := 2) (n := 24) (by decide) (by decide) ?_
  refine va_putF (D := D) (ci := 2) (v := .ref q_117750) (ty := .array .int) (C := RX2) (T := TX2) (N := 8) hx hb hts inlX2 tyX2 tyX2_ok nmX2 hown hK hP hD hS 0 rfl rfl 2 (by decide) (hts (Cond.fieldLink RX2 15 "ChanceRings$Net" "pay" "[I") qw_317) (fun _ h9 => h9) rfl hin rfl (by decide +kernel) rfl rfl (Nat.le_of_ble_eq_true rfl) dX2_init_17 (fun H locs hP hD hS => ?_)
  have hP : va_P D vwCl [(n, .inr (2, [.int 0, .ref q_117749, .ref q_117750, .null, .null, .null, .null, .null])), (wI g q_117749 0 12 (fun _ => 0)), (wI g q_117750 0 12 (fun _ => 0))] H := hP
  have hD : va_D A [(n, .inr (2, [.int 0, .ref q_117749, .ref q_117750, .null, .null, .null, .null, .null])), (wI g q_117749 0 12 (fun _ => 0)), (wI g q_117750 0 12 (fun _ => 0))] := hD
  refine lv_aload_n hx hb dX2_init_20 rfl (lv_at hl 0 rfl) ?_
  refine lv_bipush (v := 12) hx hb dX2_init_21 (by decide) ?_
  refine va_newa (atype := .int) (ty := .int) (N' := 12) (a0 := (12, .inl (fun _ => 0))) hx hb (hts (Cond.arrayClass .int) qw_913) rfl hK hP hD hS hA (fun _ => rfl) (by decide) (by decide +kernel) (by decide) (Nat.le_of_ble_eq_true rfl) (Nat.le_of_ble_eq_true rfl) dX2_init_23 (fun q_117751 cA H hK9 hP hD hS => ?_)
  obtain rfl : cA = g 0 := tz_clsI hK hK9
  have hP : va_P D vwCl [(n, .inr (2, [.int 0, .ref q_117749, .ref q_117750, .null, .null, .null, .null, .null])), (wI g q_117749 0 12 (fun _ => 0)), (wI g q_117750 0 12 (fun _ => 0)), (wI g q_117751 0 12 (fun _ => 0))] H := hP
  have hD : va_D A [(n, .inr (2, [.int 0, .ref q_117749, .ref q_117750, .null, .null, .null, .null, .null])), (wI g q_117749 0 12 (fun _ => 0)), (wI g q_117750 0 12 (fun _ => 0)), (wI g q_117751 0 12 (fun _ => 0))] := hD
  refine W.widen (k := 3) (n := 36) (by decide) (by decide) ?_
  refine va_putF (D := D) (ci := 2) (v := .ref q_117751) (ty := .array .int) (C := RX2) (T := TX2) (N := 8) hx hb hts inlX2 tyX2 tyX2_ok nmX2 hown hK hP hD hS 0 rfl rfl 3 (by decide) (hts (Cond.fieldLink RX2 18 "ChanceRings$Net" "name" "[I") qw_333) (fun _ h9 => h9) rfl hin rfl (by decide +kernel) rfl rfl (Nat.le_of_ble_eq_true rfl) dX2_init_25 (fun H locs hP hD hS => ?_)
  have hP : va_P D vwCl [(n, .inr (2, [.int 0, .ref q_117749, .ref q_117750, .ref q_117751, .null, .null, .null, .null])), (wI g q_117749 0 12 (fun _ => 0)), (wI g q_117750 0 12 (fun _ => 0)), (wI g q_117751 0 12 (fun _ => 0))] H := hP
  have hD : va_D A [(n, .inr (2, [.int 0, .ref q_117749, .ref q_117750, .ref q_117751, .null, .null, .null, .null])), (wI g q_117749 0 12 (fun _ => 0)), (wI g q_117750 0 12 (fun _ => 0)), (wI g q_117751 0 12 (fun _ => 0))] := hD
  refine lv_aload_n hx hb dX2_init_28 rfl (lv_at hl 0 rfl) ?_
  refine lv_bipush (v := 12) hx hb dX2_init_29 (by decide) ?_
  refine va_newa (atype := .int) (ty := .int) (N' := 12) (a0 := (12, .inl (fun _ => 0))) hx hb (hts (Cond.arrayClass .int) qw_913) rfl hK hP hD hS hA (fun _ => rfl) (by decide) (by decide +kernel) (by decide) (Nat.le_of_ble_eq_true rfl) (Nat.le_of_ble_eq_true rfl) dX2_init_31 (fun q_117752 cA H hK9 hP hD hS => ?_)
  obtain rfl : cA = g 0 := tz_clsI hK hK9
  have hP : va_P D vwCl [(n, .inr (2, [.int 0, .ref q_117749, .ref q_117750, .ref q_117751, .null, .null, .null, .null])), (wI g q_117749 0 12 (fun _ => 0)), (wI g q_117750 0 12 (fun _ => 0)), (wI g q_117751 0 12 (fun _ => 0)), (wI g q_117752 0 12 (fun _ => 0))] H := hP
  have hD : va_D A [(n, .inr (2, [.int 0, .ref q_117749, .ref q_117750, .ref q_117751, .null, .null, .null, .null])), (wI g q_117749 0 12 (fun _ => 0)), (wI g q_117750 0 12 (fun _ => 0)), (wI g q_117751 0 12 (fun _ => 0)), (wI g q_117752 0 12 (fun _ => 0))] := hD
  refine W.widen (k := 4) (n := 48) (by decide) (by decide) ?_
  refine va_putF (D := D) (ci := 2) (v := .ref q_117752) (ty := .array .int) (C := RX2) (T := TX2) (N := 8) hx hb hts inlX2 tyX2 tyX2_ok nmX2 hown hK hP hD hS 0 rfl rfl 4 (by decide) (hts (Cond.fieldLink RX2 21 "ChanceRings$Net" "ways" "[I") qw_318) (fun _ h9 => h9) rfl hin rfl (by decide +kernel) rfl rfl (Nat.le_of_ble_eq_true rfl) dX2_init_33 (fun H locs hP hD hS => ?_)
  have hP : va_P D vwCl [(n, .inr (2, [.int 0, .ref q_117749, .ref q_117750, .ref q_117751, .ref q_117752, .null, .null, .null])), (wI g q_117749 0 12 (fun _ => 0)), (wI g q_117750 0 12 (fun _ => 0)), (wI g q_117751 0 12 (fun _ => 0)), (wI g q_117752 0 12 (fun _ => 0))] H := hP
  have hD : va_D A [(n, .inr (2, [.int 0, .ref q_117749, .ref q_117750, .ref q_117751, .ref q_117752, .null, .null, .null])), (wI g q_117749 0 12 (fun _ => 0)), (wI g q_117750 0 12 (fun _ => 0)), (wI g q_117751 0 12 (fun _ => 0)), (wI g q_117752 0 12 (fun _ => 0))] := hD
  refine lv_aload_n hx hb dX2_init_36 rfl (lv_at hl 0 rfl) ?_
  refine lv_bipush (v := 12) hx hb dX2_init_37 (by decide) ?_
  refine va_newa (atype := .int) (ty := .int) (N' := 12) (a0 := (12, .inl (fun _ => 0))) hx hb (hts (Cond.arrayClass .int) qw_913) rfl hK hP hD hS hA (fun _ => rfl) (by decide) (by decide +kernel) (by decide) (Nat.le_of_ble_eq_true rfl) (Nat.le_of_ble_eq_true rfl) dX2_init_39 (fun q_117753 cA H hK9 hP hD hS => ?_)
  obtain rfl : cA = g 0 := tz_clsI hK hK9
  have hP : va_P D vwCl [(n, .inr (2, [.int 0, .ref q_117749, .ref q_117750, .ref q_117751, .ref q_117752, .null, .null, .null])), (wI g q_117749 0 12 (fun _ => 0)), (wI g q_117750 0 12 (fun _ => 0)), (wI g q_117751 0 12 (fun _ => 0)), (wI g q_117752 0 12 (fun _ => 0)), (wI g q_117753 0 12 (fun _ => 0))] H := hP
  have hD : va_D A [(n, .inr (2, [.int 0, .ref q_117749, .ref q_117750, .ref q_117751, .ref q_117752, .null, .null, .null])), (wI g q_117749 0 12 (fun _ => 0)), (wI g q_117750 0 12 (fun _ => 0)), (wI g q_117751 0 12 (fun _ => 0)), (wI g q_117752 0 12 (fun _ => 0)), (wI g q_117753 0 12 (fun _ => 0))] := hD
  refine W.widen (k := 5) (n := 60) (by decide) (by decide) ?_
  refine va_putF (D := D) (ci := 2) (v := .ref q_117753) (ty := .array .int) (C := RX2) (T := TX2) (N := 8) hx hb hts inlX2 tyX2 tyX2_ok nmX2 hown hK hP hD hS 0 rfl rfl 5 (by decide) (hts (Cond.fieldLink RX2 24 "ChanceRings$Net" "held" "[I") qw_314) (fun _ h9 => h9) rfl hin rfl (by decide +kernel) rfl rfl (Nat.le_of_ble_eq_true rfl) dX2_init_41 (fun H locs hP hD hS => ?_)
  have hP : va_P D vwCl [(n, .inr (2, [.int 0, .ref q_117749, .ref q_117750, .ref q_117751, .ref q_117752, .ref q_117753, .null, .null])), (wI g q_117749 0 12 (fun _ => 0)), (wI g q_117750 0 12 (fun _ => 0)), (wI g q_117751 0 12 (fun _ => 0)), (wI g q_117752 0 12 (fun _ => 0)), (wI g q_117753 0 12 (fun _ => 0))] H := hP
  have hD : va_D A [(n, .inr (2, [.int 0, .ref q_117749, .ref q_117750, .ref q_117751, .ref q_117752, .ref q_117753, .null, .null])), (wI g q_117749 0 12 (fun _ => 0)), (wI g q_117750 0 12 (fun _ => 0)), (wI g q_117751 0 12 (fun _ => 0)), (wI g q_117752 0 12 (fun _ => 0)), (wI g q_117753 0 12 (fun _ => 0))] := hD
  refine lv_aload_n hx hb dX2_init_44 rfl (lv_at hl 0 rfl) ?_
  refine lv_bipush (v := 36) hx hb dX2_init_45 (by decide) ?_
  refine va_newa (atype := .int) (ty := .int) (N' := 36) (a0 := (36, .inl (fun _ => 0))) hx hb (hts (Cond.arrayClass .int) qw_913) rfl hK hP hD hS hA (fun _ => rfl) (by decide) (by decide +kernel) (by decide) (Nat.le_of_ble_eq_true rfl) (Nat.le_of_ble_eq_true rfl) dX2_init_47 (fun q_117754 cA H hK9 hP hD hS => ?_)
  obtain rfl : cA = g 0 := tz_clsI hK hK9
  have hP : va_P D vwCl [(n, .inr (2, [.int 0, .ref q_117749, .ref q_117750, .ref q_117751, .ref q_117752, .ref q_117753, .null, .null])), (wI g q_117749 0 12 (fun _ => 0)), (wI g q_117750 0 12 (fun _ => 0)), (wI g q_117751 0 12 (fun _ => 0)), (wI g q_117752 0 12 (fun _ => 0)), (wI g q_117753 0 12 (fun _ => 0)), (wI g q_117754 0 36 (fun _ => 0))] H := hP
  have hD : va_D A [(n, .inr (2, [.int 0, .ref q_117749, .ref q_117750, .ref q_117751, .ref q_117752, .ref q_117753, .null, .null])), (wI g q_117749 0 12 (fun _ => 0)), (wI g q_117750 0 12 (fun _ => 0)), (wI g q_117751 0 12 (fun _ => 0)), (wI g q_117752 0 12 (fun _ => 0)), (wI g q_117753 0 12 (fun _ => 0)), (wI g q_117754 0 36 (fun _ => 0))] := hD
  refine W.widen (k := 6) (n := 96) (by decide) (by decide) ?_
  refine va_putF (D := D) (ci := 2) (v := .ref q_117754) (ty := .array .int) (C := RX2) (T := TX2) (N := 8) hx hb hts inlX2 tyX2 tyX2_ok nmX2 hown hK hP hD hS 0 rfl rfl 6 (by decide) (hts (Cond.fieldLink RX2 27 "ChanceRings$Net" "targets" "[I") qw_315) (fun _ h9 => h9) rfl hin rfl (by decide +kernel) rfl rfl (Nat.le_of_ble_eq_true rfl) dX2_init_49 (fun H locs hP hD hS => ?_)
  have hP : va_P D vwCl [(n, .inr (2, [.int 0, .ref q_117749, .ref q_117750, .ref q_117751, .ref q_117752, .ref q_117753, .ref q_117754, .null])), (wI g q_117749 0 12 (fun _ => 0)), (wI g q_117750 0 12 (fun _ => 0)), (wI g q_117751 0 12 (fun _ => 0)), (wI g q_117752 0 12 (fun _ => 0)), (wI g q_117753 0 12 (fun _ => 0)), (wI g q_117754 0 36 (fun _ => 0))] H := hP
  have hD : va_D A [(n, .inr (2, [.int 0, .ref q_117749, .ref q_117750, .ref q_117751, .ref q_117752, .ref q_117753, .ref q_117754, .null])), (wI g q_117749 0 12 (fun _ => 0)), (wI g q_117750 0 12 (fun _ => 0)), (wI g q_117751 0 12 (fun _ => 0)), (wI g q_117752 0 12 (fun _ => 0)), (wI g q_117753 0 12 (fun _ => 0)), (wI g q_117754 0 36 (fun _ => 0))] := hD
  refine lv_aload_n hx hb dX2_init_52 rfl (lv_at hl 0 rfl) ?_
  refine lv_bipush (v := 36) hx hb dX2_init_53 (by decide) ?_
  refine va_newa (atype := .int) (ty := .int) (N' := 36) (a0 := (36, .inl (fun _ => 0))) hx hb (hts (Cond.arrayClass .int) qw_913) rfl hK hP hD hS hA (fun _ => rfl) (by decide) (by decide +kernel) (by decide) (Nat.le_of_ble_eq_true rfl) (Nat.le_of_ble_eq_true rfl) dX2_init_55 (fun q_117755 cA H hK9 hP hD hS => ?_)
  obtain rfl : cA = g 0 := tz_clsI hK hK9
  have hP : va_P D vwCl [(n, .inr (2, [.int 0, .ref q_117749, .ref q_117750, .ref q_117751, .ref q_117752, .ref q_117753, .ref q_117754, .null])), (wI g q_117749 0 12 (fun _ => 0)), (wI g q_117750 0 12 (fun _ => 0)), (wI g q_117751 0 12 (fun _ => 0)), (wI g q_117752 0 12 (fun _ => 0)), (wI g q_117753 0 12 (fun _ => 0)), (wI g q_117754 0 36 (fun _ => 0)), (wI g q_117755 0 36 (fun _ => 0))] H := hP
  have hD : va_D A [(n, .inr (2, [.int 0, .ref q_117749, .ref q_117750, .ref q_117751, .ref q_117752, .ref q_117753, .ref q_117754, .null])), (wI g q_117749 0 12 (fun _ => 0)), (wI g q_117750 0 12 (fun _ => 0)), (wI g q_117751 0 12 (fun _ => 0)), (wI g q_117752 0 12 (fun _ => 0)), (wI g q_117753 0 12 (fun _ => 0)), (wI g q_117754 0 36 (fun _ => 0)), (wI g q_117755 0 36 (fun _ => 0))] := hD
  refine W.widen (k := 7) (n := 132) (by decide) (by decide) ?_
  refine va_putF (D := D) (ci := 2) (v := .ref q_117755) (ty := .array .int) (C := RX2) (T := TX2) (N := 8) hx hb hts inlX2 tyX2 tyX2_ok nmX2 hown hK hP hD hS 0 rfl rfl 7 (by decide) (hts (Cond.fieldLink RX2 30 "ChanceRings$Net" "weights" "[I") qw_332) (fun _ h9 => h9) rfl hin rfl (by decide +kernel) rfl rfl (Nat.le_of_ble_eq_true rfl) dX2_init_57 (fun H locs hP hD hS => ?_)
  have hP : va_P D vwCl [(wO2 n 0 q_117749 q_117750 q_117751 q_117752 q_117753 q_117754 q_117755), (wI g q_117749 0 12 (fun _ => 0)), (wI g q_117750 0 12 (fun _ => 0)), (wI g q_117751 0 12 (fun _ => 0)), (wI g q_117752 0 12 (fun _ => 0)), (wI g q_117753 0 12 (fun _ => 0)), (wI g q_117754 0 36 (fun _ => 0)), (wI g q_117755 0 36 (fun _ => 0))] H := hP
  have hD : va_D A [(wO2 n 0 q_117749 q_117750 q_117751 q_117752 q_117753 q_117754 q_117755), (wI g q_117749 0 12 (fun _ => 0)), (wI g q_117750 0 12 (fun _ => 0)), (wI g q_117751 0 12 (fun _ => 0)), (wI g q_117752 0 12 (fun _ => 0)), (wI g q_117753 0 12 (fun _ => 0)), (wI g q_117754 0 36 (fun _ => 0)), (wI g q_117755 0 36 (fun _ => 0))] := hD
  have hP9 := hP.sub (ws' := [(wO2 n 0 q_117749 q_117750 q_117751 q_117752 q_117753 q_117754 q_117755), (wI g q_117749 0 12 (fun _ => 0)), (wI g q_117750 0 12 (fun _ => 0)), (wI g q_117751 0 12 (fun _ => 0)), (wI g q_117752 0 12 (fun _ => 0)), (wI g q_117753 0 12 (fun _ => 0)), (wI g q_117754 0 36 (fun _ => 0)), (wI g q_117755 0 36 (fun _ => 0))]) [0, 1, 2, 3, 4, 5, 6, 7] rfl
  have hD9 := hD.sub (ws' := [(wO2 n 0 q_117749 q_117750 q_117751 q_117752 q_117753 q_117754 q_117755), (wI g q_117749 0 12 (fun _ => 0)), (wI g q_117750 0 12 (fun _ => 0)), (wI g q_117751 0 12 (fun _ => 0)), (wI g q_117752 0 12 (fun _ => 0)), (wI g q_117753 0 12 (fun _ => 0)), (wI g q_117754 0 36 (fun _ => 0)), (wI g q_117755 0 36 (fun _ => 0))]) [0, 1, 2, 3, 4, 5, 6, 7] (by decide) rfl
  exact W.vret hx hb hr (fun t ht hW => ⟨⟨(), rfl, trivial, q_117749, q_117750, q_117751, q_117752, q_117753, q_117754, q_117755, by rw [ht]; exact hP9, hD9⟩, hS.F ht⟩) hS.2.2 dX2_init_60
set_option maxHeartbeats 4000000 in
set_option maxRecDepth 100000 in
theorem c_X10_init (l : Launch) (D : va_G) (g : Nat → ClassId) (sz : Nat) (ka kv : Nat → Nat) (ff : Nat → Nat → Int32) (vs : Nat) : Met l yX10_init (.code yX10_init cX10_init 1 none :: wsL_law) ({ frames := 1, cells := 1, slots := 12, locals := 12 }) (va_Pc [.ref vs] (fun U => U.heap.size = sz ∧ va_P D vwCl [(vs, .inr (10, [.null, .long 0]))] U.heap ∧ va_K D vwCl (TY g) U ∧ va_D (fun _ => True) [(vs, .inr (10, [.null, .long 0]))] ∧ ZI ka kv ff (va_A [(vs, .inr (10, [.null, .long 0]))] sz) U U.heap)) (va_Qv (fun (_ : Unit) => True) (fun _ t => ∃ vs_part : Nat, va_P D vwCl [(wO10 vs vs_part 1), (wJ g vs_part 1 12 (fun _ => 0))] t.heap ∧ va_D (va_A [(vs, .inr (10, [.null, .long 0]))] sz) [(wO10 vs vs_part 1), (wJ g vs_part 1 12 (fun _ => 0))]) (va_A [(vs, .inr (10, [.null, .long 0]))] sz)) 1 12 (va_A [(vs, .inr (10, [.null, .long 0]))] sz) := by
  refine Met.ofW (cc := cX10_init) (maxL := 1) (ret := none) (by decide) rfl ?_
  intro p e s m args below meth c s₁ B hml hv
  obtain ⟨rfl, hsz, hP, hK, hD0, hZ⟩ := hv
  have hx := B.exec
  have hb := B.bytes
  have hr := B.returns
  have hts0 := atoms_spec (ws := (.code yX10_init cX10_init 1 none :: wsL_law)) B.pre
  have hts : ∀ w ∈ wsL_law, w.before _ s = true := fun w h => hts0 w (List.mem_cons_of_mem _ h)
  have hown : s.vm.findClass RX10 = some m.cls := findClass_of_methodNamed B.named
  have hlocks := B.notSynchronized
  have hin : meth.name = "<init>" := (name_of_methodNamed B.named B.method).1
  subst hsz
  have hD := hD0.self (sz := s.heap.size)
  generalize hAe : va_A [(vs, .inr (10, [.null, .long 0]))] s.heap.size = A at hD hZ ⊢
  have hA : ∀ q : Nat, s.heap.size ≤ q → A q := fun q h => by rw [← hAe]; exact Or.inr h
  have hS : va_S A s.heap s.heap [] := va_S.rf
  have hP : va_P D vwCl [(vs, .inr (10, [.null, .long 0]))] s.heap := hP
  have hl := lv_entry ([.ref vs]) (n := 1) (Nat.le_of_ble_eq_true rfl)
  rw [lg_entry_eq]
  generalize (lg_sl ([.ref vs]) ++ List.replicate (1 - (lg_sl ([.ref vs])).length) Slot.unset).toArray = ls at hl ⊢
  have hl : lv_has ls 1 [(0, .ref vs)] := hl
  refine lv_aload_n hx hb dX10_init_0 rfl (lv_at hl 0 rfl) ?_
  refine W.objInit hx hb hown (hts (Cond.methodLink RX10 3 objectInit) qw_915) (hts (Cond.instanceMethod objectInit) qw_911) (hts (Cond.code objectInit ⟨#[0xb1]⟩ 1 none) qw_912) rfl (by rw [hml]; exact hl.1) rfl dX10_init_1 (Nat.le_of_ble_eq_true rfl) (Nat.le_of_ble_eq_true rfl) ?_
  refine W.eq (g2 := F0 m 4 ls []) rfl ?_
  refine lv_aload_n hx hb dX10_init_4 rfl (lv_at hl 0 rfl) ?_
  refine lv_bipush (v := 12) hx hb dX10_init_5 (by decide) ?_
  refine va_newa (atype := .long) (ty := .long) (N' := 12) (a0 := (12, .inr (.inl (fun _ => 0)))) hx hb (hts (Cond.arrayClass .long) qw_916) rfl hK hP hD hS hA (fun _ => rfl) (by decide) (by decide +kernel) (by decide) (Nat.le_of_ble_eq_true rfl) (Nat.le_of_ble_eq_true rfl) dX10_init_7 (fun q_117756 cA H hK9 hP hD hS => ?_)
  obtain rfl : cA = g 1 := tz_clsJ hK hK9
  have hP : va_P D vwCl [(vs, .inr (10, [.null, .long 0])), (wJ g q_117756 1 12 (fun _ => 0))] H := hP
  have hD : va_D A [(vs, .inr (10, [.null, .long 0])), (wJ g q_117756 1 12 (fun _ => 0))] := hD
  refine W.widen (k := 1) (n := 12) (by decide) (by decide) ?_
  refine va_putF (D := D) (ci := 10) (v := .ref q_117756) (ty := .array .long) (C := RX10) (T := TX10) (N := 2) hx hb hts inlX10 tyX10 tyX10_ok nmX10 hown hK hP hD hS 0 rfl rfl 0 (by decide) (hts (Cond.fieldLink RX10 9 "ChanceRings$Values" "part" "[J") qw_334) (fun _ h9 => h9) rfl hin rfl (by decide +kernel) rfl rfl (Nat.le_of_ble_eq_true rfl) dX10_init_9 (fun H locs hP hD hS => ?_)
  have hP : va_P D vwCl [(wO10 vs q_117756 0), (wJ g q_117756 1 12 (fun _ => 0))] H := hP
  have hD : va_D A [(wO10 vs q_117756 0), (wJ g q_117756 1 12 (fun _ => 0))] := hD
  refine lv_aload_n hx hb dX10_init_12 rfl (lv_at hl 0 rfl) ?_
  refine lv_lconst (v := 1) hx hb dX10_init_13 (by decide) ?_
  refine va_put (D := D) (ci := 10) (v := .long 1) (ty := .long) (C := RX10) (T := TX10) (N := 2) hx hb hts inlX10 tyX10 tyX10_ok nmX10 hown hK hP hD hS 0 rfl rfl 1 (by decide) (hts (Cond.fieldLink RX10 15 "ChanceRings$Values" "whole" "J") qw_335) (fun _ h9 => h9) rfl (by decide +kernel) rfl rfl (Nat.le_of_ble_eq_true rfl) dX10_init_14 (fun H locs hP hD hS => ?_)
  have hP : va_P D vwCl [(wO10 vs q_117756 1), (wJ g q_117756 1 12 (fun _ => 0))] H := hP
  have hD : va_D A [(wO10 vs q_117756 1), (wJ g q_117756 1 12 (fun _ => 0))] := hD
  have hP9 := hP.sub (ws' := [(wO10 vs q_117756 1), (wJ g q_117756 1 12 (fun _ => 0))]) [0, 1] rfl
  have hD9 := hD.sub (ws' := [(wO10 vs q_117756 1), (wJ g q_117756 1 12 (fun _ => 0))]) [0, 1] (by decide) rfl
  exact W.vret hx hb hr (fun t ht hW => ⟨⟨(), rfl, trivial, q_117756, by rw [ht]; exact hP9, hD9⟩, hS.F ht⟩) hS.2.2 dX10_init_17
set_option maxHeartbeats 4000000 in
set_option maxRecDepth 100000 in
theorem c_X9_init (l : Launch) (D : va_G) (g : Nat → ClassId) (sz : Nat) (ka kv : Nat → Nat) (ff : Nat → Nat → Int32) (tl : Nat) : Met l yX9_init (.code yX9_init cX9_init 1 none :: wsL_law) ({ frames := 1, cells := 1, slots := 700, locals := 12 }) (va_Pc [.ref tl] (fun U => U.heap.size = sz ∧ va_P D vwCl [(tl, .inr (9, [.null, .int 0]))] U.heap ∧ va_K D vwCl (TY g) U ∧ va_D (fun _ => True) [(tl, .inr (9, [.null, .int 0]))] ∧ ZI ka kv ff (va_A [(tl, .inr (9, [.null, .int 0]))] sz) U U.heap)) (va_Qv (fun (_ : Unit) => True) (fun _ t => ∃ tl_bytes : Nat, va_P D vwCl [(wO9 tl tl_bytes 0), (wI g tl_bytes 0 700 (fun _ => 0))] t.heap ∧ va_D (va_A [(tl, .inr (9, [.null, .int 0]))] sz) [(wO9 tl tl_bytes 0), (wI g tl_bytes 0 700 (fun _ => 0))]) (va_A [(tl, .inr (9, [.null, .int 0]))] sz)) 1 700 (va_A [(tl, .inr (9, [.null, .int 0]))] sz) := by
  refine Met.ofW (cc := cX9_init) (maxL := 1) (ret := none) (by decide) rfl ?_
  intro p e s m args below meth c s₁ B hml hv
  obtain ⟨rfl, hsz, hP, hK, hD0, hZ⟩ := hv
  have hx := B.exec
  have hb := B.bytes
  have hr := B.returns
  have hts0 := atoms_spec (ws := (.code yX9_init cX9_init 1 none :: wsL_law)) B.pre
  have hts : ∀ w ∈ wsL_law, w.before _ s = true := fun w h => hts0 w (List.mem_cons_of_mem _ h)
  have hown : s.vm.findClass RX9 = some m.cls := findClass_of_methodNamed B.named
  have hlocks := B.notSynchronized
  have hin : meth.name = "<init>" := (name_of_methodNamed B.named B.method).1
  subst hsz
  have hD := hD0.self (sz := s.heap.size)
  generalize hAe : va_A [(tl, .inr (9, [.null, .int 0]))] s.heap.size = A at hD hZ ⊢
  have hA : ∀ q : Nat, s.heap.size ≤ q → A q := fun q h => by rw [← hAe]; exact Or.inr h
  have hS : va_S A s.heap s.heap [] := va_S.rf
  have hP : va_P D vwCl [(tl, .inr (9, [.null, .int 0]))] s.heap := hP
  have hl := lv_entry ([.ref tl]) (n := 1) (Nat.le_of_ble_eq_true rfl)
  rw [lg_entry_eq]
  generalize (lg_sl ([.ref tl]) ++ List.replicate (1 - (lg_sl ([.ref tl])).length) Slot.unset).toArray = ls at hl ⊢
  have hl : lv_has ls 1 [(0, .ref tl)] := hl
  refine lv_aload_n hx hb dX9_init_0 rfl (lv_at hl 0 rfl) ?_
  refine W.objInit hx hb hown (hts (Cond.methodLink RX9 3 objectInit) qw_917) (hts (Cond.instanceMethod objectInit) qw_911) (hts (Cond.code objectInit ⟨#[0xb1]⟩ 1 none) qw_912) rfl (by rw [hml]; exact hl.1) rfl dX9_init_1 (Nat.le_of_ble_eq_true rfl) (Nat.le_of_ble_eq_true rfl) ?_
  refine W.eq (g2 := F0 m 4 ls []) rfl ?_
  refine lv_aload_n hx hb dX9_init_4 rfl (lv_at hl 0 rfl) ?_
  refine lv_sipush (v := 700) hx hb dX9_init_5 (by decide) ?_
  refine va_newa (atype := .int) (ty := .int) (N' := 700) (a0 := (700, .inl (fun _ => 0))) hx hb (hts (Cond.arrayClass .int) qw_913) rfl hK hP hD hS hA (fun _ => rfl) (by decide) (by decide +kernel) (by decide) (Nat.le_of_ble_eq_true rfl) (Nat.le_of_ble_eq_true rfl) dX9_init_8 (fun q_117757 cA H hK9 hP hD hS => ?_)
  obtain rfl : cA = g 0 := tz_clsI hK hK9
  have hP : va_P D vwCl [(tl, .inr (9, [.null, .int 0])), (wI g q_117757 0 700 (fun _ => 0))] H := hP
  have hD : va_D A [(tl, .inr (9, [.null, .int 0])), (wI g q_117757 0 700 (fun _ => 0))] := hD
  refine W.widen (k := 1) (n := 700) (by decide) (by decide) ?_
  refine va_putF (D := D) (ci := 9) (v := .ref q_117757) (ty := .array .int) (C := RX9) (T := TX9) (N := 2) hx hb hts inlX9 tyX9 tyX9_ok nmX9 hown hK hP hD hS 0 rfl rfl 0 (by decide) (hts (Cond.fieldLink RX9 9 "ChanceRings$Telling" "bytes" "[I") qw_347) (fun _ h9 => h9) rfl hin rfl (by decide +kernel) rfl rfl (Nat.le_of_ble_eq_true rfl) dX9_init_10 (fun H locs hP hD hS => ?_)
  have hP : va_P D vwCl [(wO9 tl q_117757 0), (wI g q_117757 0 700 (fun _ => 0))] H := hP
  have hD : va_D A [(wO9 tl q_117757 0), (wI g q_117757 0 700 (fun _ => 0))] := hD
  have hP9 := hP.sub (ws' := [(wO9 tl q_117757 0), (wI g q_117757 0 700 (fun _ => 0))]) [0, 1] rfl
  have hD9 := hD.sub (ws' := [(wO9 tl q_117757 0), (wI g q_117757 0 700 (fun _ => 0))]) [0, 1] (by decide) rfl
  exact W.vret hx hb hr (fun t ht hW => ⟨⟨(), rfl, trivial, q_117757, by rw [ht]; exact hP9, hD9⟩, hS.F ht⟩) hS.2.2 dX9_init_13
set_option maxHeartbeats 4000000 in
set_option maxRecDepth 100000 in
theorem c_X7_init (l : Launch) (D : va_G) (g : Nat → ClassId) (sz : Nat) (ka kv : Nat → Nat) (ff : Nat → Nat → Int32) (st : Nat) : Met l yX7_init (.code yX7_init cX7_init 1 none :: wsL_law) ({ frames := 1, cells := 4, slots := 32, locals := 12 }) (va_Pc [.ref st] (fun U => U.heap.size = sz ∧ va_P D vwCl [(st, .inr (7, [.null, .null, .null, .null, .int 0]))] U.heap ∧ va_K D vwCl (TY g) U ∧ va_D (fun _ => True) [(st, .inr (7, [.null, .null, .null, .null, .int 0]))] ∧ ZI ka kv ff (va_A [(st, .inr (7, [.null, .null, .null, .null, .int 0]))] sz) U U.heap)) (va_Qv (fun (_ : Unit) => True) (fun _ t => ∃ st_what : Nat, ∃ st_node : Nat, ∃ st_index : Nat, ∃ st_before : Nat, va_P D vwCl [(wO7 st st_what st_node st_index st_before 0), (wI g st_what 0 8 (fun _ => 0)), (wI g st_node 0 8 (fun _ => 0)), (wI g st_index 0 8 (fun _ => 0)), (wI g st_before 0 8 (fun _ => 0))] t.heap ∧ va_D (va_A [(st, .inr (7, [.null, .null, .null, .null, .int 0]))] sz) [(wO7 st st_what st_node st_index st_before 0), (wI g st_what 0 8 (fun _ => 0)), (wI g st_node 0 8 (fun _ => 0)), (wI g st_index 0 8 (fun _ => 0)), (wI g st_before 0 8 (fun _ => 0))]) (va_A [(st, .inr (7, [.null, .null, .null, .null, .int 0]))] sz)) 4 32 (va_A [(st, .inr (7, [.null, .null, .null, .null, .int 0]))] sz) := by
  refine Met.ofW (cc := cX7_init) (maxL := 1) (ret := none) (by decide) rfl ?_
  intro p e s m args below meth c s₁ B hml hv
  obtain ⟨rfl, hsz, hP, hK, hD0, hZ⟩ := hv
  have hx := B.exec
  have hb := B.bytes
  have hr := B.returns
  have hts0 := atoms_spec (ws := (.code yX7_init cX7_init 1 none :: wsL_law)) B.pre
  have hts : ∀ w ∈ wsL_law, w.before _ s = true := fun w h => hts0 w (List.mem_cons_of_mem _ h)
  have hown : s.vm.findClass RX7 = some m.cls := findClass_of_methodNamed B.named
  have hlocks := B.notSynchronized
  have hin : meth.name = "<init>" := (name_of_methodNamed B.named B.method).1
  subst hsz
  have hD := hD0.self (sz := s.heap.size)
  generalize hAe : va_A [(st, .inr (7, [.null, .null, .null, .null, .int 0]))] s.heap.size = A at hD hZ ⊢
  have hA : ∀ q : Nat, s.heap.size ≤ q → A q := fun q h => by rw [← hAe]; exact Or.inr h
  have hS : va_S A s.heap s.heap [] := va_S.rf
  have hP : va_P D vwCl [(st, .inr (7, [.null, .null, .null, .null, .int 0]))] s.heap := hP
  have hl := lv_entry ([.ref st]) (n := 1) (Nat.le_of_ble_eq_true rfl)
  rw [lg_entry_eq]
  generalize (lg_sl ([.ref st]) ++ List.replicate (1 - (lg_sl ([.ref st])).length) Slot.unset).toArray = ls at hl ⊢
  have hl : lv_has ls 1 [(0, .ref st)] := hl
  refine lv_aload_n hx hb dX7_init_0 rfl (lv_at hl 0 rfl) ?_
  refine W.objInit hx hb hown (hts (Cond.methodLink RX7 3 objectInit) qw_918) (hts (Cond.instanceMethod objectInit) qw_911) (hts (Cond.code objectInit ⟨#[0xb1]⟩ 1 none) qw_912) rfl (by rw [hml]; exact hl.1) rfl dX7_init_1 (Nat.le_of_ble_eq_true rfl) (Nat.le_of_ble_eq_true rfl) ?_
  refine W.eq (g2 := F0 m 4 ls []) rfl ?_
  refine lv_aload_n hx hb dX7_init_4 rfl (lv_at hl 0 rfl) ?_
  refine lv_bipush (v := 8) hx hb dX7_init_5 (by decide) ?_
  refine va_newa (atype := .int) (ty := .int) (N' := 8) (a0 := (8, .inl (fun _ => 0))) hx hb (hts (Cond.arrayClass .int) qw_913) rfl hK hP hD hS hA (fun _ => rfl) (by decide) (by decide +kernel) (by decide) (Nat.le_of_ble_eq_true rfl) (Nat.le_of_ble_eq_true rfl) dX7_init_7 (fun q_117758 cA H hK9 hP hD hS => ?_)
  obtain rfl : cA = g 0 := tz_clsI hK hK9
  have hP : va_P D vwCl [(st, .inr (7, [.null, .null, .null, .null, .int 0])), (wI g q_117758 0 8 (fun _ => 0))] H := hP
  have hD : va_D A [(st, .inr (7, [.null, .null, .null, .null, .int 0])), (wI g q_117758 0 8 (fun _ => 0))] := hD
  refine W.widen (k := 1) (n := 8) (by decide) (by decide) ?_
  refine va_putF (D := D) (ci := 7) (v := .ref q_117758) (ty := .array .int) (C := RX7) (T := TX7) (N := 5) hx hb hts inlX7 tyX7 tyX7_ok nmX7 hown hK hP hD hS 0 rfl rfl 0 (by decide) (hts (Cond.fieldLink RX7 9 "ChanceRings$Steps" "what" "[I") qw_620) (fun _ h9 => h9) rfl hin rfl (by decide +kernel) rfl rfl (Nat.le_of_ble_eq_true rfl) dX7_init_9 (fun H locs hP hD hS => ?_)
  have hP : va_P D vwCl [(st, .inr (7, [.ref q_117758, .null, .null, .null, .int 0])), (wI g q_117758 0 8 (fun _ => 0))] H := hP
  have hD : va_D A [(st, .inr (7, [.ref q_117758, .null, .null, .null, .int 0])), (wI g q_117758 0 8 (fun _ => 0))] := hD
  refine lv_aload_n hx hb dX7_init_12 rfl (lv_at hl 0 rfl) ?_
  refine lv_bipush (v := 8) hx hb dX7_init_13 (by decide) ?_
  refine va_newa (atype := .int) (ty := .int) (N' := 8) (a0 := (8, .inl (fun _ => 0))) hx hb (hts (Cond.arrayClass .int) qw_913) rfl hK hP hD hS hA (fun _ => rfl) (by decide) (by decide +kernel) (by decide) (Nat.le_of_ble_eq_true rfl) (Nat.le_of_ble_eq_true rfl) dX7_init_15 (fun q_117759 cA H hK9 hP hD hS => ?_)
  obtain rfl : cA = g 0 := tz_clsI hK hK9
  have hP : va_P D vwCl [(st, .inr (7, [.ref q_117758, .null, .null, .null, .int 0])), (wI g q_117758 0 8 (fun _ => 0)), (wI g q_117759 0 8 (fun _ => 0))] H := hP
  have hD : va_D A [(st, .inr (7, [.ref q_117758, .null, .null, .null, .int 0])), (wI g q_117758 0 8 (fun _ => 0)), (wI g q_117759 0 8 (fun _ => 0))] := hD
  refine W.widen (k := 2) (n := 16) (by decide) (by decide) ?_
  refine va_putF (D := D) (ci := 7) (v := .ref q_117759) (ty := .array .int) (C := RX7) (T := TX7) (N := 5) hx hb hts inlX7 tyX7 tyX7_ok nmX7 hown hK hP hD hS 0 rfl rfl 1 (by decide) (hts (Cond.fieldLink RX7 15 "ChanceRings$Steps" "node" "[I") qw_622) (fun _ h9 => h9) rfl hin rfl (by decide +kernel) rfl rfl (Nat.le_of_ble_eq_true rfl) dX7_init_17 (fun H locs hP hD hS => ?_)
  have hP : va_P D vwCl [(st, .inr (7, [.ref q_117758, .ref q_117759, .null, .null, .int 0])), (wI g q_117758 0 8 (fun _ => 0)), (wI g q_117759 0 8 (fun _ => 0))] H := hP
  have hD : va_D A [(st, .inr (7, [.ref q_117758, .ref q_117759, .null, .null, .int 0])), (wI g q_117758 0 8 (fun _ => 0)), (wI g q_117759 0 8 (fun _ => 0))] := hD
  refine lv_aload_n hx hb dX7_init_20 rfl (lv_at hl 0 rfl) ?_
  refine lv_bipush (v := 8) hx hb dX7_init_21 (by decide) ?_
  refine va_newa (atype := .int) (ty := .int) (N' := 8) (a0 := (8, .inl (fun _ => 0))) hx hb (hts (Cond.arrayClass .int) qw_913) rfl hK hP hD hS hA (fun _ => rfl) (by decide) (by decide +kernel) (by decide) (Nat.le_of_ble_eq_true rfl) (Nat.le_of_ble_eq_true rfl) dX7_init_23 (fun q_117760 cA H hK9 hP hD hS => ?_)
  obtain rfl : cA = g 0 := tz_clsI hK hK9
  have hP : va_P D vwCl [(st, .inr (7, [.ref q_117758, .ref q_117759, .null, .null, .int 0])), (wI g q_117758 0 8 (fun _ => 0)), (wI g q_117759 0 8 (fun _ => 0)), (wI g q_117760 0 8 (fun _ => 0))] H := hP
  have hD : va_D A [(st, .inr (7, [.ref q_117758, .ref q_117759, .null, .null, .int 0])), (wI g q_117758 0 8 (fun _ => 0)), (wI g q_117759 0 8 (fun _ => 0)), (wI g q_117760 0 8 (fun _ => 0))] := hD
  refine W.widen (k := 3) (n := 24) (by decide) (by decide) ?_
  refine va_putF (D := D) (ci := 7) (v := .ref q_117760) (ty := .array .int) (C := RX7) (T := TX7) (N := 5) hx hb hts inlX7 tyX7 tyX7_ok nmX7 hown hK hP hD hS 0 rfl rfl 2 (by decide) (hts (Cond.fieldLink RX7 18 "ChanceRings$Steps" "index" "[I") qw_623) (fun _ h9 => h9) rfl hin rfl (by decide +kernel) rfl rfl (Nat.le_of_ble_eq_true rfl) dX7_init_25 (fun H locs hP hD hS => ?_)
  have hP : va_P D vwCl [(st, .inr (7, [.ref q_117758, .ref q_117759, .ref q_117760, .null, .int 0])), (wI g q_117758 0 8 (fun _ => 0)), (wI g q_117759 0 8 (fun _ => 0)), (wI g q_117760 0 8 (fun _ => 0))] H := hP
  have hD : va_D A [(st, .inr (7, [.ref q_117758, .ref q_117759, .ref q_117760, .null, .int 0])), (wI g q_117758 0 8 (fun _ => 0)), (wI g q_117759 0 8 (fun _ => 0)), (wI g q_117760 0 8 (fun _ => 0))] := hD
  refine lv_aload_n hx hb dX7_init_28 rfl (lv_at hl 0 rfl) ?_
  refine lv_bipush (v := 8) hx hb dX7_init_29 (by decide) ?_
  refine va_newa (atype := .int) (ty := .int) (N' := 8) (a0 := (8, .inl (fun _ => 0))) hx hb (hts (Cond.arrayClass .int) qw_913) rfl hK hP hD hS hA (fun _ => rfl) (by decide) (by decide +kernel) (by decide) (Nat.le_of_ble_eq_true rfl) (Nat.le_of_ble_eq_true rfl) dX7_init_31 (fun q_117761 cA H hK9 hP hD hS => ?_)
  obtain rfl : cA = g 0 := tz_clsI hK hK9
  have hP : va_P D vwCl [(st, .inr (7, [.ref q_117758, .ref q_117759, .ref q_117760, .null, .int 0])), (wI g q_117758 0 8 (fun _ => 0)), (wI g q_117759 0 8 (fun _ => 0)), (wI g q_117760 0 8 (fun _ => 0)), (wI g q_117761 0 8 (fun _ => 0))] H := hP
  have hD : va_D A [(st, .inr (7, [.ref q_117758, .ref q_117759, .ref q_117760, .null, .int 0])), (wI g q_117758 0 8 (fun _ => 0)), (wI g q_117759 0 8 (fun _ => 0)), (wI g q_117760 0 8 (fun _ => 0)), (wI g q_117761 0 8 (fun _ => 0))] := hD
  refine W.widen (k := 4) (n := 32) (by decide) (by decide) ?_
  refine va_putF (D := D) (ci := 7) (v := .ref q_117761) (ty := .array .int) (C := RX7) (T := TX7) (N := 5) hx hb hts inlX7 tyX7 tyX7_ok nmX7 hown hK hP hD hS 0 rfl rfl 3 (by decide) (hts (Cond.fieldLink RX7 21 "ChanceRings$Steps" "before" "[I") qw_624) (fun _ h9 => h9) rfl hin rfl (by decide +kernel) rfl rfl (Nat.le_of_ble_eq_true rfl) dX7_init_33 (fun H locs hP hD hS => ?_)
  have hP : va_P D vwCl [(wO7 st q_117758 q_117759 q_117760 q_117761 0), (wI g q_117758 0 8 (fun _ => 0)), (wI g q_117759 0 8 (fun _ => 0)), (wI g q_117760 0 8 (fun _ => 0)), (wI g q_117761 0 8 (fun _ => 0))] H := hP
  have hD : va_D A [(wO7 st q_117758 q_117759 q_117760 q_117761 0), (wI g q_117758 0 8 (fun _ => 0)), (wI g q_117759 0 8 (fun _ => 0)), (wI g q_117760 0 8 (fun _ => 0)), (wI g q_117761 0 8 (fun _ => 0))] := hD
  have hP9 := hP.sub (ws' := [(wO7 st q_117758 q_117759 q_117760 q_117761 0), (wI g q_117758 0 8 (fun _ => 0)), (wI g q_117759 0 8 (fun _ => 0)), (wI g q_117760 0 8 (fun _ => 0)), (wI g q_117761 0 8 (fun _ => 0))]) [0, 1, 2, 3, 4] rfl
  have hD9 := hD.sub (ws' := [(wO7 st q_117758 q_117759 q_117760 q_117761 0), (wI g q_117758 0 8 (fun _ => 0)), (wI g q_117759 0 8 (fun _ => 0)), (wI g q_117760 0 8 (fun _ => 0)), (wI g q_117761 0 8 (fun _ => 0))]) [0, 1, 2, 3, 4] (by decide) rfl
  exact W.vret hx hb hr (fun t ht hW => ⟨⟨(), rfl, trivial, q_117758, q_117759, q_117760, q_117761, by rw [ht]; exact hP9, hD9⟩, hS.F ht⟩) hS.2.2 dX7_init_36
set_option maxHeartbeats 4000000 in
set_option maxRecDepth 100000 in
theorem c_X5_init (l : Launch) (D : va_G) (g : Nat → ClassId) (sz : Nat) (ka kv : Nat → Nat) (ff : Nat → Nat → Int32) (rg : Nat) (n : Nat) : Met l yX5_init (.code yX5_init cX5_init 2 none :: wsL_law) ({ frames := 1, cells := 0, slots := 0, locals := 12 }) (va_Pc [.ref rg, .ref n] (fun U => U.heap.size = sz ∧ va_P D vwCl [(rg, .inr (5, [.null]))] U.heap ∧ va_K D vwCl (TY g) U ∧ va_D (fun _ => True) [(rg, .inr (5, [.null]))] ∧ ZI ka kv ff (va_A [(rg, .inr (5, [.null]))] sz) U U.heap)) (va_Qv (fun (_ : Unit) => True) (fun _ t => va_P D vwCl [(wO5 rg n)] t.heap ∧ va_D (va_A [(rg, .inr (5, [.null]))] sz) [(wO5 rg n)]) (va_A [(rg, .inr (5, [.null]))] sz)) 0 0 (va_A [(rg, .inr (5, [.null]))] sz) := by
  refine Met.ofW (cc := cX5_init) (maxL := 2) (ret := none) (by decide) rfl ?_
  intro p e s m args below meth c s₁ B hml hv
  obtain ⟨rfl, hsz, hP, hK, hD0, hZ⟩ := hv
  have hx := B.exec
  have hb := B.bytes
  have hr := B.returns
  have hts0 := atoms_spec (ws := (.code yX5_init cX5_init 2 none :: wsL_law)) B.pre
  have hts : ∀ w ∈ wsL_law, w.before _ s = true := fun w h => hts0 w (List.mem_cons_of_mem _ h)
  have hown : s.vm.findClass RX5 = some m.cls := findClass_of_methodNamed B.named
  have hlocks := B.notSynchronized
  have hin : meth.name = "<init>" := (name_of_methodNamed B.named B.method).1
  subst hsz
  have hD := hD0.self (sz := s.heap.size)
  generalize hAe : va_A [(rg, .inr (5, [.null]))] s.heap.size = A at hD hZ ⊢
  have hA : ∀ q : Nat, s.heap.size ≤ q → A q := fun q h => by rw [← hAe]; exact Or.inr h
  have hS : va_S A s.heap s.heap [] := va_S.rf
  have hP : va_P D vwCl [(rg, .inr (5, [.null]))] s.heap := hP
  have hl := lv_entry ([.ref rg, .ref n]) (n := 2) (Nat.le_of_ble_eq_true rfl)
  rw [lg_entry_eq]
  generalize (lg_sl ([.ref rg, .ref n]) ++ List.replicate (2 - (lg_sl ([.ref rg, .ref n])).length) Slot.unset).toArray = ls at hl ⊢
  have hl : lv_has ls 2 [(0, .ref rg), (1, .ref n)] := hl
  refine lv_aload_n hx hb dX5_init_0 rfl (lv_at hl 0 rfl) ?_
  refine W.objInit hx hb hown (hts (Cond.methodLink RX5 3 objectInit) qw_919) (hts (Cond.instanceMethod objectInit) qw_911) (hts (Cond.code objectInit ⟨#[0xb1]⟩ 1 none) qw_912) rfl (by rw [hml]; exact hl.1) rfl dX5_init_1 (Nat.le_of_ble_eq_true rfl) (Nat.le_of_ble_eq_true rfl) ?_
  refine W.eq (g2 := F0 m 4 ls []) rfl ?_
  refine lv_aload_n hx hb dX5_init_4 rfl (lv_at hl 0 rfl) ?_
  refine lv_aload_n hx hb dX5_init_5 rfl (lv_at hl 1 rfl) ?_
  refine va_putF (D := D) (ci := 5) (v := .ref n) (ty := .object "ChanceRings$Net") (C := RX5) (T := TX5) (N := 1) hx hb hts inlX5 tyX5 tyX5_ok nmX5 hown hK hP hD hS 0 rfl rfl 0 (by decide) (hts (Cond.fieldLink RX5 9 "ChanceRings$Regions" "net" "LChanceRings$Net;") qw_476) (fun _ h9 => h9) rfl hin rfl (by decide +kernel) rfl rfl (Nat.le_of_ble_eq_true rfl) dX5_init_6 (fun H locs hP hD hS => ?_)
  have hP : va_P D vwCl [(wO5 rg n)] H := hP
  have hD : va_D A [(wO5 rg n)] := hD
  have hP9 := hP.sub (ws' := [(wO5 rg n)]) [0] rfl
  have hD9 := hD.sub (ws' := [(wO5 rg n)]) [0] (by decide) rfl
  exact W.vret hx hb hr (fun t ht hW => ⟨⟨(), rfl, trivial, by rw [ht]; exact hP9, hD9⟩, hS.F ht⟩) hS.2.2 dX5_init_9
set_option maxHeartbeats 4000000 in
set_option maxRecDepth 100000 in
theorem c_X1_init (l : Launch) (D : va_G) (g : Nat → ClassId) (sz : Nat) (ka kv : Nat → Nat) (ff : Nat → Nat → Int32) (eq : Nat) : Met l yX1_init (.code yX1_init cX1_init 1 none :: wsL_law) ({ frames := 1, cells := 10, slots := 80, locals := 12 }) (va_Pc [.ref eq] (fun U => U.heap.size = sz ∧ va_P D vwCl [(eq, .inr (1, [.null, .null, .long 0]))] U.heap ∧ va_K D vwCl (TY g) U ∧ va_D (fun _ => True) [(eq, .inr (1, [.null, .null, .long 0]))] ∧ ZI ka kv ff (va_A [(eq, .inr (1, [.null, .null, .long 0]))] sz) U U.heap)) (va_Qv (fun (_ : Unit) => True) (fun _ t => ∃ eq_rows : Nat, ∃ eq_right : Nat, ∃ rr : Nat → Nat, va_P D vwCl [(wO1 eq eq_rows eq_right 0), (wJ g eq_right 1 8 (fun _ => 0)), (wR g eq_rows 5 8 (fun i => if i < 8 then some (rr i) else none)), (wJ g (rr 0) 1 8 (fun _ => 0)), (wJ g (rr 1) 1 8 (fun _ => 0)), (wJ g (rr 2) 1 8 (fun _ => 0)), (wJ g (rr 3) 1 8 (fun _ => 0)), (wJ g (rr 4) 1 8 (fun _ => 0)), (wJ g (rr 5) 1 8 (fun _ => 0)), (wJ g (rr 6) 1 8 (fun _ => 0)), (wJ g (rr 7) 1 8 (fun _ => 0))] t.heap ∧ va_D (va_A [(eq, .inr (1, [.null, .null, .long 0]))] sz) [(wO1 eq eq_rows eq_right 0), (wJ g eq_right 1 8 (fun _ => 0)), (wR g eq_rows 5 8 (fun i => if i < 8 then some (rr i) else none)), (wJ g (rr 0) 1 8 (fun _ => 0)), (wJ g (rr 1) 1 8 (fun _ => 0)), (wJ g (rr 2) 1 8 (fun _ => 0)), (wJ g (rr 3) 1 8 (fun _ => 0)), (wJ g (rr 4) 1 8 (fun _ => 0)), (wJ g (rr 5) 1 8 (fun _ => 0)), (wJ g (rr 6) 1 8 (fun _ => 0)), (wJ g (rr 7) 1 8 (fun _ => 0))]) (va_A [(eq, .inr (1, [.null, .null, .long 0]))] sz)) 10 80 (va_A [(eq, .inr (1, [.null, .null, .long 0]))] sz) := by
  refine Met.ofW (cc := cX1_init) (maxL := 1) (ret := none) (by decide) rfl ?_
  intro p e s m args below meth c s₁ B hml hv
  obtain ⟨rfl, hsz, hP, hK, hD0, hZ⟩ := hv
  have hx := B.exec
  have hb := B.bytes
  have hr := B.returns
  have hts0 := atoms_spec (ws := (.code yX1_init cX1_init 1 none :: wsL_law)) B.pre
  have hts : ∀ w ∈ wsL_law, w.before _ s = true := fun w h => hts0 w (List.mem_cons_of_mem _ h)
  have hown : s.vm.findClass RX1 = some m.cls := findClass_of_methodNamed B.named
  have hlocks := B.notSynchronized
  have hin : meth.name = "<init>" := (name_of_methodNamed B.named B.method).1
  subst hsz
  have hD := hD0.self (sz := s.heap.size)
  generalize hAe : va_A [(eq, .inr (1, [.null, .null, .long 0]))] s.heap.size = A at hD hZ ⊢
  have hA : ∀ q : Nat, s.heap.size ≤ q → A q := fun q h => by rw [← hAe]; exact Or.inr h
  have hS : va_S A s.heap s.heap [] := va_S.rf
  have hP : va_P D vwCl [(eq, .inr (1, [.null, .null, .long 0]))] s.heap := hP
  have hl := lv_entry ([.ref eq]) (n := 1) (Nat.le_of_ble_eq_true rfl)
  rw [lg_entry_eq]
  generalize (lg_sl ([.ref eq]) ++ List.replicate (1 - (lg_sl ([.ref eq])).length) Slot.unset).toArray = ls at hl ⊢
  have hl : lv_has ls 1 [(0, .ref eq)] := hl
  refine lv_aload_n hx hb dX1_init_0 rfl (lv_at hl 0 rfl) ?_
  refine W.objInit hx hb hown (hts (Cond.methodLink RX1 3 objectInit) qw_920) (hts (Cond.instanceMethod objectInit) qw_911) (hts (Cond.code objectInit ⟨#[0xb1]⟩ 1 none) qw_912) rfl (by rw [hml]; exact hl.1) rfl dX1_init_1 (Nat.le_of_ble_eq_true rfl) (Nat.le_of_ble_eq_true rfl) ?_
  refine W.eq (g2 := F0 m 4 ls []) rfl ?_
  refine lv_aload_n hx hb dX1_init_4 rfl (lv_at hl 0 rfl) ?_
  refine lv_bipush (v := 8) hx hb dX1_init_5 (by decide) ?_
  refine lv_bipush (v := 8) hx hb dX1_init_7 (by decide) ?_
  refine va_mna (X := [(eq, .inr (1, [.null, .null, .long 0]))]) (L := []) (f := fun _ => .inr (0, [])) (ty := .long) (N' := 8) (K' := 8) (z := (8, .inr (.inl (fun _ => 0)))) hx hb hown (hts (Cond.classLink RX1 9 ("[" ++ (FieldType.array .long).toString)) qJJ_RX1) hZ.2.1 (hts (Cond.arrayClass .long) qw_916) (hK.2 1 _ rfl).2 hK hP hD hS hA (by decide) (by decide) (by decide +kernel) (by decide +kernel) (by decide) (by decide) (by decide) rfl rfl (Nat.le_of_ble_eq_true rfl) (Nat.le_of_ble_eq_true rfl) (fun c => tz_inner c 8) dX1_init_9 (fun q_117762 rr_117763 cA H _ _ hK9 hP hD hS => ?_)
  obtain rfl : cA = g 5 := tz_clsR hK hK9
  rw [tz_pool] at hP hD
  have hP : va_P D vwCl [(eq, .inr (1, [.null, .null, .long 0])), (wR g q_117762 5 8 (fun i => if i < 8 then some (rr_117763 i) else none)), (wJ g (rr_117763 0) 1 8 (fun _ => 0)), (wJ g (rr_117763 1) 1 8 (fun _ => 0)), (wJ g (rr_117763 2) 1 8 (fun _ => 0)), (wJ g (rr_117763 3) 1 8 (fun _ => 0)), (wJ g (rr_117763 4) 1 8 (fun _ => 0)), (wJ g (rr_117763 5) 1 8 (fun _ => 0)), (wJ g (rr_117763 6) 1 8 (fun _ => 0)), (wJ g (rr_117763 7) 1 8 (fun _ => 0))] H := hP
  have hD : va_D A [(eq, .inr (1, [.null, .null, .long 0])), (wR g q_117762 5 8 (fun i => if i < 8 then some (rr_117763 i) else none)), (wJ g (rr_117763 0) 1 8 (fun _ => 0)), (wJ g (rr_117763 1) 1 8 (fun _ => 0)), (wJ g (rr_117763 2) 1 8 (fun _ => 0)), (wJ g (rr_117763 3) 1 8 (fun _ => 0)), (wJ g (rr_117763 4) 1 8 (fun _ => 0)), (wJ g (rr_117763 5) 1 8 (fun _ => 0)), (wJ g (rr_117763 6) 1 8 (fun _ => 0)), (wJ g (rr_117763 7) 1 8 (fun _ => 0))] := hD
  refine W.widen (k := 9) (n := 72) (by decide) (by decide) ?_
  refine va_putF (D := D) (ci := 1) (v := .ref q_117762) (ty := .array (.array .long)) (C := RX1) (T := TX1) (N := 3) hx hb hts inlX1 tyX1 tyX1_ok nmX1 hown hK hP hD hS 0 rfl rfl 0 (by decide) (hts (Cond.fieldLink RX1 11 "ChanceRings$Equations" "rows" "[[J") qw_497) (fun _ h9 => h9) rfl hin rfl (by decide +kernel) rfl rfl (Nat.le_of_ble_eq_true rfl) dX1_init_13 (fun H locs hP hD hS => ?_)
  have hP : va_P D vwCl [(eq, .inr (1, [.ref q_117762, .null, .long 0])), (wR g q_117762 5 8 (fun i => if i < 8 then some (rr_117763 i) else none)), (wJ g (rr_117763 0) 1 8 (fun _ => 0)), (wJ g (rr_117763 1) 1 8 (fun _ => 0)), (wJ g (rr_117763 2) 1 8 (fun _ => 0)), (wJ g (rr_117763 3) 1 8 (fun _ => 0)), (wJ g (rr_117763 4) 1 8 (fun _ => 0)), (wJ g (rr_117763 5) 1 8 (fun _ => 0)), (wJ g (rr_117763 6) 1 8 (fun _ => 0)), (wJ g (rr_117763 7) 1 8 (fun _ => 0))] H := hP
  have hD : va_D A [(eq, .inr (1, [.ref q_117762, .null, .long 0])), (wR g q_117762 5 8 (fun i => if i < 8 then some (rr_117763 i) else none)), (wJ g (rr_117763 0) 1 8 (fun _ => 0)), (wJ g (rr_117763 1) 1 8 (fun _ => 0)), (wJ g (rr_117763 2) 1 8 (fun _ => 0)), (wJ g (rr_117763 3) 1 8 (fun _ => 0)), (wJ g (rr_117763 4) 1 8 (fun _ => 0)), (wJ g (rr_117763 5) 1 8 (fun _ => 0)), (wJ g (rr_117763 6) 1 8 (fun _ => 0)), (wJ g (rr_117763 7) 1 8 (fun _ => 0))] := hD
  refine lv_aload_n hx hb dX1_init_16 rfl (lv_at hl 0 rfl) ?_
  refine lv_bipush (v := 8) hx hb dX1_init_17 (by decide) ?_
  refine va_newa (atype := .long) (ty := .long) (N' := 8) (a0 := (8, .inr (.inl (fun _ => 0)))) hx hb (hts (Cond.arrayClass .long) qw_916) rfl hK hP hD hS hA (fun _ => rfl) (by decide) (by decide +kernel) (by decide) (Nat.le_of_ble_eq_true rfl) (Nat.le_of_ble_eq_true rfl) dX1_init_19 (fun q_117764 cA H hK9 hP hD hS => ?_)
  obtain rfl : cA = g 1 := tz_clsJ hK hK9
  have hP : va_P D vwCl [(eq, .inr (1, [.ref q_117762, .null, .long 0])), (wR g q_117762 5 8 (fun i => if i < 8 then some (rr_117763 i) else none)), (wJ g (rr_117763 0) 1 8 (fun _ => 0)), (wJ g (rr_117763 1) 1 8 (fun _ => 0)), (wJ g (rr_117763 2) 1 8 (fun _ => 0)), (wJ g (rr_117763 3) 1 8 (fun _ => 0)), (wJ g (rr_117763 4) 1 8 (fun _ => 0)), (wJ g (rr_117763 5) 1 8 (fun _ => 0)), (wJ g (rr_117763 6) 1 8 (fun _ => 0)), (wJ g (rr_117763 7) 1 8 (fun _ => 0)), (wJ g q_117764 1 8 (fun _ => 0))] H := hP
  have hD : va_D A [(eq, .inr (1, [.ref q_117762, .null, .long 0])), (wR g q_117762 5 8 (fun i => if i < 8 then some (rr_117763 i) else none)), (wJ g (rr_117763 0) 1 8 (fun _ => 0)), (wJ g (rr_117763 1) 1 8 (fun _ => 0)), (wJ g (rr_117763 2) 1 8 (fun _ => 0)), (wJ g (rr_117763 3) 1 8 (fun _ => 0)), (wJ g (rr_117763 4) 1 8 (fun _ => 0)), (wJ g (rr_117763 5) 1 8 (fun _ => 0)), (wJ g (rr_117763 6) 1 8 (fun _ => 0)), (wJ g (rr_117763 7) 1 8 (fun _ => 0)), (wJ g q_117764 1 8 (fun _ => 0))] := hD
  refine W.widen (k := 10) (n := 80) (by decide) (by decide) ?_
  refine va_putF (D := D) (ci := 1) (v := .ref q_117764) (ty := .array .long) (C := RX1) (T := TX1) (N := 3) hx hb hts inlX1 tyX1 tyX1_ok nmX1 hown hK hP hD hS 0 rfl rfl 1 (by decide) (hts (Cond.fieldLink RX1 16 "ChanceRings$Equations" "right" "[J") qw_496) (fun _ h9 => h9) rfl hin rfl (by decide +kernel) rfl rfl (Nat.le_of_ble_eq_true rfl) dX1_init_21 (fun H locs hP hD hS => ?_)
  have hP : va_P D vwCl [(wO1 eq q_117762 q_117764 0), (wR g q_117762 5 8 (fun i => if i < 8 then some (rr_117763 i) else none)), (wJ g (rr_117763 0) 1 8 (fun _ => 0)), (wJ g (rr_117763 1) 1 8 (fun _ => 0)), (wJ g (rr_117763 2) 1 8 (fun _ => 0)), (wJ g (rr_117763 3) 1 8 (fun _ => 0)), (wJ g (rr_117763 4) 1 8 (fun _ => 0)), (wJ g (rr_117763 5) 1 8 (fun _ => 0)), (wJ g (rr_117763 6) 1 8 (fun _ => 0)), (wJ g (rr_117763 7) 1 8 (fun _ => 0)), (wJ g q_117764 1 8 (fun _ => 0))] H := hP
  have hD : va_D A [(wO1 eq q_117762 q_117764 0), (wR g q_117762 5 8 (fun i => if i < 8 then some (rr_117763 i) else none)), (wJ g (rr_117763 0) 1 8 (fun _ => 0)), (wJ g (rr_117763 1) 1 8 (fun _ => 0)), (wJ g (rr_117763 2) 1 8 (fun _ => 0)), (wJ g (rr_117763 3) 1 8 (fun _ => 0)), (wJ g (rr_117763 4) 1 8 (fun _ => 0)), (wJ g (rr_117763 5) 1 8 (fun _ => 0)), (wJ g (rr_117763 6) 1 8 (fun _ => 0)), (wJ g (rr_117763 7) 1 8 (fun _ => 0)), (wJ g q_117764 1 8 (fun _ => 0))] := hD
  have hP9 := hP.sub (ws' := [(wO1 eq q_117762 q_117764 0), (wJ g q_117764 1 8 (fun _ => 0)), (wR g q_117762 5 8 (fun i => if i < 8 then some (rr_117763 i) else none)), (wJ g (rr_117763 0) 1 8 (fun _ => 0)), (wJ g (rr_117763 1) 1 8 (fun _ => 0)), (wJ g (rr_117763 2) 1 8 (fun _ => 0)), (wJ g (rr_117763 3) 1 8 (fun _ => 0)), (wJ g (rr_117763 4) 1 8 (fun _ => 0)), (wJ g (rr_117763 5) 1 8 (fun _ => 0)), (wJ g (rr_117763 6) 1 8 (fun _ => 0)), (wJ g (rr_117763 7) 1 8 (fun _ => 0))]) [0, 10, 1, 2, 3, 4, 5, 6, 7, 8, 9] rfl
  have hD9 := hD.sub (ws' := [(wO1 eq q_117762 q_117764 0), (wJ g q_117764 1 8 (fun _ => 0)), (wR g q_117762 5 8 (fun i => if i < 8 then some (rr_117763 i) else none)), (wJ g (rr_117763 0) 1 8 (fun _ => 0)), (wJ g (rr_117763 1) 1 8 (fun _ => 0)), (wJ g (rr_117763 2) 1 8 (fun _ => 0)), (wJ g (rr_117763 3) 1 8 (fun _ => 0)), (wJ g (rr_117763 4) 1 8 (fun _ => 0)), (wJ g (rr_117763 5) 1 8 (fun _ => 0)), (wJ g (rr_117763 6) 1 8 (fun _ => 0)), (wJ g (rr_117763 7) 1 8 (fun _ => 0))]) [0, 10, 1, 2, 3, 4, 5, 6, 7, 8, 9] (by decide) rfl
  exact W.vret hx hb hr (fun t ht hW => ⟨⟨(), rfl, trivial, q_117762, q_117764, rr_117763, by rw [ht]; exact hP9, hD9⟩, hS.F ht⟩) hS.2.2 dX1_init_24
set_option maxHeartbeats 4000000 in
set_option maxRecDepth 100000 in
theorem c_X0_init (l : Launch) (D : va_G) (g : Nat → ClassId) (sz : Nat) (ka kv : Nat → Nat) (ff : Nat → Nat → Int32) (co : Nat) (n : Nat) : Met l yX0_init (.code yX0_init cX0_init 2 none :: wsL_law) ({ frames := 2, cells := 12, slots := 95, locals := 32 }) (va_Pc [.ref co, .ref n] (fun U => U.heap.size = sz ∧ va_P D vwCl [(co, .inr (0, [.null, .null, .null]))] U.heap ∧ va_K D vwCl (TY g) U ∧ va_D (fun _ => True) [(co, .inr (0, [.null, .null, .null]))] ∧ ZI ka kv ff (va_A [(co, .inr (0, [.null, .null, .null]))] sz) U U.heap)) (va_Qv (fun (_ : Unit) => True) (fun _ t => ∃ co_place : Nat, ∃ eq : Nat, ∃ eq_rows : Nat, ∃ eq_right : Nat, ∃ rr : Nat → Nat, va_P D vwCl [(wO0 co n eq co_place), (wI g co_place 0 12 (fun _ => 0)), (wO1 eq eq_rows eq_right 0), (wJ g eq_right 1 8 (fun _ => 0)), (wR g eq_rows 5 8 (fun i => if i < 8 then some (rr i) else none)), (wJ g (rr 0) 1 8 (fun _ => 0)), (wJ g (rr 1) 1 8 (fun _ => 0)), (wJ g (rr 2) 1 8 (fun _ => 0)), (wJ g (rr 3) 1 8 (fun _ => 0)), (wJ g (rr 4) 1 8 (fun _ => 0)), (wJ g (rr 5) 1 8 (fun _ => 0)), (wJ g (rr 6) 1 8 (fun _ => 0)), (wJ g (rr 7) 1 8 (fun _ => 0))] t.heap ∧ va_D (va_A [(co, .inr (0, [.null, .null, .null]))] sz) [(wO0 co n eq co_place), (wI g co_place 0 12 (fun _ => 0)), (wO1 eq eq_rows eq_right 0), (wJ g eq_right 1 8 (fun _ => 0)), (wR g eq_rows 5 8 (fun i => if i < 8 then some (rr i) else none)), (wJ g (rr 0) 1 8 (fun _ => 0)), (wJ g (rr 1) 1 8 (fun _ => 0)), (wJ g (rr 2) 1 8 (fun _ => 0)), (wJ g (rr 3) 1 8 (fun _ => 0)), (wJ g (rr 4) 1 8 (fun _ => 0)), (wJ g (rr 5) 1 8 (fun _ => 0)), (wJ g (rr 6) 1 8 (fun _ => 0)), (wJ g (rr 7) 1 8 (fun _ => 0))]) (va_A [(co, .inr (0, [.null, .null, .null]))] sz)) 12 95 (va_A [(co, .inr (0, [.null, .null, .null]))] sz) := by
  refine Met.ofW (cc := cX0_init) (maxL := 2) (ret := none) (by decide) rfl ?_
  intro p e s m args below meth c s₁ B hml hv
  obtain ⟨rfl, hsz, hP, hK, hD0, hZ⟩ := hv
  have hx := B.exec
  have hb := B.bytes
  have hr := B.returns
  have hts0 := atoms_spec (ws := (.code yX0_init cX0_init 2 none :: wsL_law)) B.pre
  have hts : ∀ w ∈ wsL_law, w.before _ s = true := fun w h => hts0 w (List.mem_cons_of_mem _ h)
  have hown : s.vm.findClass RX0 = some m.cls := findClass_of_methodNamed B.named
  have hlocks := B.notSynchronized
  have hin : meth.name = "<init>" := (name_of_methodNamed B.named B.method).1
  subst hsz
  have hD := hD0.self (sz := s.heap.size)
  generalize hAe : va_A [(co, .inr (0, [.null, .null, .null]))] s.heap.size = A at hD hZ ⊢
  have hA : ∀ q : Nat, s.heap.size ≤ q → A q := fun q h => by rw [← hAe]; exact Or.inr h
  have hS : va_S A s.heap s.heap [] := va_S.rf
  have hP : va_P D vwCl [(co, .inr (0, [.null, .null, .null]))] s.heap := hP
  have hl := lv_entry ([.ref co, .ref n]) (n := 2) (Nat.le_of_ble_eq_true rfl)
  rw [lg_entry_eq]
  generalize (lg_sl ([.ref co, .ref n]) ++ List.replicate (2 - (lg_sl ([.ref co, .ref n])).length) Slot.unset).toArray = ls at hl ⊢
  have hl : lv_has ls 2 [(0, .ref co), (1, .ref n)] := hl
  refine lv_aload_n hx hb dX0_init_0 rfl (lv_at hl 0 rfl) ?_
  refine W.objInit hx hb hown (hts (Cond.methodLink RX0 3 objectInit) qw_921) (hts (Cond.instanceMethod objectInit) qw_911) (hts (Cond.code objectInit ⟨#[0xb1]⟩ 1 none) qw_912) rfl (by rw [hml]; exact hl.1) rfl dX0_init_1 (Nat.le_of_ble_eq_true rfl) (Nat.le_of_ble_eq_true rfl) ?_
  refine W.eq (g2 := F0 m 4 ls []) rfl ?_
  refine lv_aload_n hx hb dX0_init_4 rfl (lv_at hl 0 rfl) ?_
  refine va_new (ci := 1) (fs := [.null, .null, .long 0]) (C := RX1) (T := TX1) (N := 3) hx hb hts inlX1 tyX1 tyX1_ok hown (hts (Cond.classLink RX0 9 RX1) qw_922) (hts (Cond.instantiable RX1 3) qw_923) (hts (Cond.initialized RX1) qw_502) hK hP hD hS hA rfl hfs_X1 (Nat.le_of_ble_eq_true rfl) (Nat.le_of_ble_eq_true rfl) dX0_init_5 (fun q_117765 H hP hD hS => ?_)
  have hP : va_P D vwCl [(co, .inr (0, [.null, .null, .null])), (q_117765, .inr (1, [.null, .null, .long 0]))] H := hP
  have hD : va_D A [(co, .inr (0, [.null, .null, .null])), (q_117765, .inr (1, [.null, .null, .long 0]))] := hD
  refine W.widen (k := 1) (n := 3) (by decide) (by decide) ?_
  refine lv_dup hx hb dX0_init_8 rfl ?_
  have hPc := hP.sub (ws' := [(q_117765, .inr (1, [.null, .null, .long 0]))]) [1] rfl
  have hDc := hD.sub (ws' := [(q_117765, .inr (1, [.null, .null, .long 0]))]) [1] (by decide) rfl
  have hFc := va_free (wc := [(q_117765, .inr (1, [.null, .null, .long 0]))]) hD hS hA [1] rfl
  refine va_callv (va_runIN (As := []) (rest := [.ref q_117765, .ref co]) ⟨hx, hb, hml, hown, hts⟩ (c_X1_init l D g H.size ka kv ff q_117765) ⟨va_cnB 0 hts (tz_gC qw_924) rfl rfl rfl hZ.2.2.1 (hts (Cond.initialized RX1) qw_502) (by decide +kernel) ⟨Nat.le_of_ble_eq_true rfl, Nat.le_of_ble_eq_true rfl⟩, rfl, (hts (Cond.instanceMethod yX1_init) qw_925)⟩ ⟨tz_blI, tz_preI hPc hK hDc (hZ.kept hS hFc)⟩ rfl rfl hl.1 rfl (lv_room (Nat.le_of_ble_eq_true rfl)) dX0_init_9 ⟨Nat.le_of_ble_eq_true rfl, Nat.le_of_ble_eq_true rfl⟩) hS (fun q _ h => hFc q h) hFc (fun u t H1 locs ht hvm hw hB hz1 hk1 hS => ?_)
  obtain ⟨eq_rows_117767, eq_right_117768, rr_117769, hP1, hD1⟩ := hB
  rw [ht] at hP1
  obtain ⟨hP, hD⟩ := va_join (wr := [(co, .inr (0, [.null, .null, .null]))]) (w1 := [(wO1 q_117765 eq_rows_117767 eq_right_117768 0), (wJ g eq_right_117768 1 8 (fun _ => 0)), (wR g eq_rows_117767 5 8 (fun i => if i < 8 then some (rr_117769 i) else none)), (wJ g (rr_117769 0) 1 8 (fun _ => 0)), (wJ g (rr_117769 1) 1 8 (fun _ => 0)), (wJ g (rr_117769 2) 1 8 (fun _ => 0)), (wJ g (rr_117769 3) 1 8 (fun _ => 0)), (wJ g (rr_117769 4) 1 8 (fun _ => 0)), (wJ g (rr_117769 5) 1 8 (fun _ => 0)), (wJ g (rr_117769 6) 1 8 (fun _ => 0)), (wJ g (rr_117769 7) 1 8 (fun _ => 0))]) hP hD [1] [0] rfl rfl (by decide) (by decide) hk1 hFc hP1 hD1
  generalize H1 = H at hP hS ⊢
  have hP : va_P D vwCl [(co, .inr (0, [.null, .null, .null])), (wO1 q_117765 eq_rows_117767 eq_right_117768 0), (wJ g eq_right_117768 1 8 (fun _ => 0)), (wR g eq_rows_117767 5 8 (fun i => if i < 8 then some (rr_117769 i) else none)), (wJ g (rr_117769 0) 1 8 (fun _ => 0)), (wJ g (rr_117769 1) 1 8 (fun _ => 0)), (wJ g (rr_117769 2) 1 8 (fun _ => 0)), (wJ g (rr_117769 3) 1 8 (fun _ => 0)), (wJ g (rr_117769 4) 1 8 (fun _ => 0)), (wJ g (rr_117769 5) 1 8 (fun _ => 0)), (wJ g (rr_117769 6) 1 8 (fun _ => 0)), (wJ g (rr_117769 7) 1 8 (fun _ => 0))] H := hP
  have hD : va_D A [(co, .inr (0, [.null, .null, .null])), (wO1 q_117765 eq_rows_117767 eq_right_117768 0), (wJ g eq_right_117768 1 8 (fun _ => 0)), (wR g eq_rows_117767 5 8 (fun i => if i < 8 then some (rr_117769 i) else none)), (wJ g (rr_117769 0) 1 8 (fun _ => 0)), (wJ g (rr_117769 1) 1 8 (fun _ => 0)), (wJ g (rr_117769 2) 1 8 (fun _ => 0)), (wJ g (rr_117769 3) 1 8 (fun _ => 0)), (wJ g (rr_117769 4) 1 8 (fun _ => 0)), (wJ g (rr_117769 5) 1 8 (fun _ => 0)), (wJ g (rr_117769 6) 1 8 (fun _ => 0)), (wJ g (rr_117769 7) 1 8 (fun _ => 0))] := hD
  refine W.widen (k := 11) (n := 83) (by decide) (by decide) ?_
  refine va_putF (D := D) (ci := 0) (v := .ref q_117765) (ty := .object "ChanceRings$Equations") (C := RX0) (T := TX0) (N := 3) hx hb hts inlX0 tyX0 tyX0_ok nmX0 hown hK hP hD hS 0 rfl rfl 1 (by decide) (hts (Cond.fieldLink RX0 12 "ChanceRings$Course" "equations" "LChanceRings$Equations;") qw_517) (fun _ h9 => h9) rfl hin rfl (by decide +kernel) rfl rfl (Nat.le_of_ble_eq_true rfl) dX0_init_12 (fun H locs hP hD hS => ?_)
  have hP : va_P D vwCl [(co, .inr (0, [.null, .ref q_117765, .null])), (wO1 q_117765 eq_rows_117767 eq_right_117768 0), (wJ g eq_right_117768 1 8 (fun _ => 0)), (wR g eq_rows_117767 5 8 (fun i => if i < 8 then some (rr_117769 i) else none)), (wJ g (rr_117769 0) 1 8 (fun _ => 0)), (wJ g (rr_117769 1) 1 8 (fun _ => 0)), (wJ g (rr_117769 2) 1 8 (fun _ => 0)), (wJ g (rr_117769 3) 1 8 (fun _ => 0)), (wJ g (rr_117769 4) 1 8 (fun _ => 0)), (wJ g (rr_117769 5) 1 8 (fun _ => 0)), (wJ g (rr_117769 6) 1 8 (fun _ => 0)), (wJ g (rr_117769 7) 1 8 (fun _ => 0))] H := hP
  have hD : va_D A [(co, .inr (0, [.null, .ref q_117765, .null])), (wO1 q_117765 eq_rows_117767 eq_right_117768 0), (wJ g eq_right_117768 1 8 (fun _ => 0)), (wR g eq_rows_117767 5 8 (fun i => if i < 8 then some (rr_117769 i) else none)), (wJ g (rr_117769 0) 1 8 (fun _ => 0)), (wJ g (rr_117769 1) 1 8 (fun _ => 0)), (wJ g (rr_117769 2) 1 8 (fun _ => 0)), (wJ g (rr_117769 3) 1 8 (fun _ => 0)), (wJ g (rr_117769 4) 1 8 (fun _ => 0)), (wJ g (rr_117769 5) 1 8 (fun _ => 0)), (wJ g (rr_117769 6) 1 8 (fun _ => 0)), (wJ g (rr_117769 7) 1 8 (fun _ => 0))] := hD
  refine lv_aload_n hx hb dX0_init_15 rfl (lv_at hl 0 rfl) ?_
  refine lv_bipush (v := 12) hx hb dX0_init_16 (by decide) ?_
  refine va_newa (atype := .int) (ty := .int) (N' := 12) (a0 := (12, .inl (fun _ => 0))) hx hb (hts (Cond.arrayClass .int) qw_913) rfl hK hP hD hS hA (fun _ => rfl) (by decide) (by decide +kernel) (by decide) (Nat.le_of_ble_eq_true rfl) (Nat.le_of_ble_eq_true rfl) dX0_init_18 (fun q_117770 cA H hK9 hP hD hS => ?_)
  obtain rfl : cA = g 0 := tz_clsI hK hK9
  have hP : va_P D vwCl [(co, .inr (0, [.null, .ref q_117765, .null])), (wO1 q_117765 eq_rows_117767 eq_right_117768 0), (wJ g eq_right_117768 1 8 (fun _ => 0)), (wR g eq_rows_117767 5 8 (fun i => if i < 8 then some (rr_117769 i) else none)), (wJ g (rr_117769 0) 1 8 (fun _ => 0)), (wJ g (rr_117769 1) 1 8 (fun _ => 0)), (wJ g (rr_117769 2) 1 8 (fun _ => 0)), (wJ g (rr_117769 3) 1 8 (fun _ => 0)), (wJ g (rr_117769 4) 1 8 (fun _ => 0)), (wJ g (rr_117769 5) 1 8 (fun _ => 0)), (wJ g (rr_117769 6) 1 8 (fun _ => 0)), (wJ g (rr_117769 7) 1 8 (fun _ => 0)), (wI g q_117770 0 12 (fun _ => 0))] H := hP
  have hD : va_D A [(co, .inr (0, [.null, .ref q_117765, .null])), (wO1 q_117765 eq_rows_117767 eq_right_117768 0), (wJ g eq_right_117768 1 8 (fun _ => 0)), (wR g eq_rows_117767 5 8 (fun i => if i < 8 then some (rr_117769 i) else none)), (wJ g (rr_117769 0) 1 8 (fun _ => 0)), (wJ g (rr_117769 1) 1 8 (fun _ => 0)), (wJ g (rr_117769 2) 1 8 (fun _ => 0)), (wJ g (rr_117769 3) 1 8 (fun _ => 0)), (wJ g (rr_117769 4) 1 8 (fun _ => 0)), (wJ g (rr_117769 5) 1 8 (fun _ => 0)), (wJ g (rr_117769 6) 1 8 (fun _ => 0)), (wJ g (rr_117769 7) 1 8 (fun _ => 0)), (wI g q_117770 0 12 (fun _ => 0))] := hD
  refine W.widen (k := 12) (n := 95) (by decide) (by decide) ?_
  refine va_putF (D := D) (ci := 0) (v := .ref q_117770) (ty := .array .int) (C := RX0) (T := TX0) (N := 3) hx hb hts inlX0 tyX0 tyX0_ok nmX0 hown hK hP hD hS 0 rfl rfl 2 (by decide) (hts (Cond.fieldLink RX0 18 "ChanceRings$Course" "place" "[I") qw_494) (fun _ h9 => h9) rfl hin rfl (by decide +kernel) rfl rfl (Nat.le_of_ble_eq_true rfl) dX0_init_20 (fun H locs hP hD hS => ?_)
  have hP : va_P D vwCl [(co, .inr (0, [.null, .ref q_117765, .ref q_117770])), (wO1 q_117765 eq_rows_117767 eq_right_117768 0), (wJ g eq_right_117768 1 8 (fun _ => 0)), (wR g eq_rows_117767 5 8 (fun i => if i < 8 then some (rr_117769 i) else none)), (wJ g (rr_117769 0) 1 8 (fun _ => 0)), (wJ g (rr_117769 1) 1 8 (fun _ => 0)), (wJ g (rr_117769 2) 1 8 (fun _ => 0)), (wJ g (rr_117769 3) 1 8 (fun _ => 0)), (wJ g (rr_117769 4) 1 8 (fun _ => 0)), (wJ g (rr_117769 5) 1 8 (fun _ => 0)), (wJ g (rr_117769 6) 1 8 (fun _ => 0)), (wJ g (rr_117769 7) 1 8 (fun _ => 0)), (wI g q_117770 0 12 (fun _ => 0))] H := hP
  have hD : va_D A [(co, .inr (0, [.null, .ref q_117765, .ref q_117770])), (wO1 q_117765 eq_rows_117767 eq_right_117768 0), (wJ g eq_right_117768 1 8 (fun _ => 0)), (wR g eq_rows_117767 5 8 (fun i => if i < 8 then some (rr_117769 i) else none)), (wJ g (rr_117769 0) 1 8 (fun _ => 0)), (wJ g (rr_117769 1) 1 8 (fun _ => 0)), (wJ g (rr_117769 2) 1 8 (fun _ => 0)), (wJ g (rr_117769 3) 1 8 (fun _ => 0)), (wJ g (rr_117769 4) 1 8 (fun _ => 0)), (wJ g (rr_117769 5) 1 8 (fun _ => 0)), (wJ g (rr_117769 6) 1 8 (fun _ => 0)), (wJ g (rr_117769 7) 1 8 (fun _ => 0)), (wI g q_117770 0 12 (fun _ => 0))] := hD
  refine lv_aload_n hx hb dX0_init_23 rfl (lv_at hl 0 rfl) ?_
  refine lv_aload_n hx hb dX0_init_24 rfl (lv_at hl 1 rfl) ?_
  refine va_putF (D := D) (ci := 0) (v := .ref n) (ty := .object "ChanceRings$Net") (C := RX0) (T := TX0) (N := 3) hx hb hts inlX0 tyX0 tyX0_ok nmX0 hown hK hP hD hS 0 rfl rfl 0 (by decide) (hts (Cond.fieldLink RX0 22 "ChanceRings$Course" "net" "LChanceRings$Net;") qw_483) (fun _ h9 => h9) rfl hin rfl (by decide +kernel) rfl rfl (Nat.le_of_ble_eq_true rfl) dX0_init_25 (fun H locs hP hD hS => ?_)
  have hP : va_P D vwCl [(wO0 co n q_117765 q_117770), (wO1 q_117765 eq_rows_117767 eq_right_117768 0), (wJ g eq_right_117768 1 8 (fun _ => 0)), (wR g eq_rows_117767 5 8 (fun i => if i < 8 then some (rr_117769 i) else none)), (wJ g (rr_117769 0) 1 8 (fun _ => 0)), (wJ g (rr_117769 1) 1 8 (fun _ => 0)), (wJ g (rr_117769 2) 1 8 (fun _ => 0)), (wJ g (rr_117769 3) 1 8 (fun _ => 0)), (wJ g (rr_117769 4) 1 8 (fun _ => 0)), (wJ g (rr_117769 5) 1 8 (fun _ => 0)), (wJ g (rr_117769 6) 1 8 (fun _ => 0)), (wJ g (rr_117769 7) 1 8 (fun _ => 0)), (wI g q_117770 0 12 (fun _ => 0))] H := hP
  have hD : va_D A [(wO0 co n q_117765 q_117770), (wO1 q_117765 eq_rows_117767 eq_right_117768 0), (wJ g eq_right_117768 1 8 (fun _ => 0)), (wR g eq_rows_117767 5 8 (fun i => if i < 8 then some (rr_117769 i) else none)), (wJ g (rr_117769 0) 1 8 (fun _ => 0)), (wJ g (rr_117769 1) 1 8 (fun _ => 0)), (wJ g (rr_117769 2) 1 8 (fun _ => 0)), (wJ g (rr_117769 3) 1 8 (fun _ => 0)), (wJ g (rr_117769 4) 1 8 (fun _ => 0)), (wJ g (rr_117769 5) 1 8 (fun _ => 0)), (wJ g (rr_117769 6) 1 8 (fun _ => 0)), (wJ g (rr_117769 7) 1 8 (fun _ => 0)), (wI g q_117770 0 12 (fun _ => 0))] := hD
  have hP9 := hP.sub (ws' := [(wO0 co n q_117765 q_117770), (wI g q_117770 0 12 (fun _ => 0)), (wO1 q_117765 eq_rows_117767 eq_right_117768 0), (wJ g eq_right_117768 1 8 (fun _ => 0)), (wR g eq_rows_117767 5 8 (fun i => if i < 8 then some (rr_117769 i) else none)), (wJ g (rr_117769 0) 1 8 (fun _ => 0)), (wJ g (rr_117769 1) 1 8 (fun _ => 0)), (wJ g (rr_117769 2) 1 8 (fun _ => 0)), (wJ g (rr_117769 3) 1 8 (fun _ => 0)), (wJ g (rr_117769 4) 1 8 (fun _ => 0)), (wJ g (rr_117769 5) 1 8 (fun _ => 0)), (wJ g (rr_117769 6) 1 8 (fun _ => 0)), (wJ g (rr_117769 7) 1 8 (fun _ => 0))]) [0, 12, 1, 2, 3, 4, 5, 6, 7, 8, 9, 10, 11] rfl
  have hD9 := hD.sub (ws' := [(wO0 co n q_117765 q_117770), (wI g q_117770 0 12 (fun _ => 0)), (wO1 q_117765 eq_rows_117767 eq_right_117768 0), (wJ g eq_right_117768 1 8 (fun _ => 0)), (wR g eq_rows_117767 5 8 (fun i => if i < 8 then some (rr_117769 i) else none)), (wJ g (rr_117769 0) 1 8 (fun _ => 0)), (wJ g (rr_117769 1) 1 8 (fun _ => 0)), (wJ g (rr_117769 2) 1 8 (fun _ => 0)), (wJ g (rr_117769 3) 1 8 (fun _ => 0)), (wJ g (rr_117769 4) 1 8 (fun _ => 0)), (wJ g (rr_117769 5) 1 8 (fun _ => 0)), (wJ g (rr_117769 6) 1 8 (fun _ => 0)), (wJ g (rr_117769 7) 1 8 (fun _ => 0))]) [0, 12, 1, 2, 3, 4, 5, 6, 7, 8, 9, 10, 11] (by decide) rfl
  exact W.vret hx hb hr (fun t ht hW => ⟨⟨(), rfl, trivial, q_117770, q_117765, eq_rows_117767, eq_right_117768, rr_117769, by rw [ht]; exact hP9, hD9⟩, hS.F ht⟩) hS.2.2 dX0_init_28
set_option maxHeartbeats 4000000 in
set_option maxRecDepth 100000 in
theorem c_X6_init (l : Launch) (D : va_G) (g : Nat → ClassId) (sz : Nat) (ka kv : Nat → Nat) (ff : Nat → Nat → Int32) (sv : Nat) (n : Nat) : Met l yX6_init (.code yX6_init cX6_init 2 none :: wsL_law) ({ frames := 3, cells := 15, slots := 122, locals := 53 }) (va_Pc [.ref sv, .ref n] (fun U => U.heap.size = sz ∧ va_P D vwCl [(sv, .inr (6, [.null, .null, .null, .null]))] U.heap ∧ va_K D vwCl (TY g) U ∧ va_D (fun _ => True) [(sv, .inr (6, [.null, .null, .null, .null]))] ∧ ZI ka kv ff (va_A [(sv, .inr (6, [.null, .null, .null, .null]))] sz) U U.heap)) (va_Qv (fun (_ : Unit) => True) (fun _ t => ∃ sv_keep : Nat, ∃ sv_scaled : Nat, ∃ co : Nat, ∃ co_place : Nat, ∃ eq : Nat, ∃ eq_rows : Nat, ∃ eq_right : Nat, ∃ rr : Nat → Nat, va_P D vwCl [(wO6 sv n co sv_keep sv_scaled), (wI g sv_keep 0 12 (fun _ => 0)), (wJ g sv_scaled 1 12 (fun _ => 0)), (wO0 co n eq co_place), (wI g co_place 0 12 (fun _ => 0)), (wO1 eq eq_rows eq_right 0), (wJ g eq_right 1 8 (fun _ => 0)), (wR g eq_rows 5 8 (fun i => if i < 8 then some (rr i) else none)), (wJ g (rr 0) 1 8 (fun _ => 0)), (wJ g (rr 1) 1 8 (fun _ => 0)), (wJ g (rr 2) 1 8 (fun _ => 0)), (wJ g (rr 3) 1 8 (fun _ => 0)), (wJ g (rr 4) 1 8 (fun _ => 0)), (wJ g (rr 5) 1 8 (fun _ => 0)), (wJ g (rr 6) 1 8 (fun _ => 0)), (wJ g (rr 7) 1 8 (fun _ => 0))] t.heap ∧ va_D (va_A [(sv, .inr (6, [.null, .null, .null, .null]))] sz) [(wO6 sv n co sv_keep sv_scaled), (wI g sv_keep 0 12 (fun _ => 0)), (wJ g sv_scaled 1 12 (fun _ => 0)), (wO0 co n eq co_place), (wI g co_place 0 12 (fun _ => 0)), (wO1 eq eq_rows eq_right 0), (wJ g eq_right 1 8 (fun _ => 0)), (wR g eq_rows 5 8 (fun i => if i < 8 then some (rr i) else none)), (wJ g (rr 0) 1 8 (fun _ => 0)), (wJ g (rr 1) 1 8 (fun _ => 0)), (wJ g (rr 2) 1 8 (fun _ => 0)), (wJ g (rr 3) 1 8 (fun _ => 0)), (wJ g (rr 4) 1 8 (fun _ => 0)), (wJ g (rr 5) 1 8 (fun _ => 0)), (wJ g (rr 6) 1 8 (fun _ => 0)), (wJ g (rr 7) 1 8 (fun _ => 0))]) (va_A [(sv, .inr (6, [.null, .null, .null, .null]))] sz)) 15 122 (va_A [(sv, .inr (6, [.null, .null, .null, .null]))] sz) := by
  refine Met.ofW (cc := cX6_init) (maxL := 2) (ret := none) (by decide) rfl ?_
  intro p e s m args below meth c s₁ B hml hv
  obtain ⟨rfl, hsz, hP, hK, hD0, hZ⟩ := hv
  have hx := B.exec
  have hb := B.bytes
  have hr := B.returns
  have hts0 := atoms_spec (ws := (.code yX6_init cX6_init 2 none :: wsL_law)) B.pre
  have hts : ∀ w ∈ wsL_law, w.before _ s = true := fun w h => hts0 w (List.mem_cons_of_mem _ h)
  have hown : s.vm.findClass RX6 = some m.cls := findClass_of_methodNamed B.named
  have hlocks := B.notSynchronized
  have hin : meth.name = "<init>" := (name_of_methodNamed B.named B.method).1
  subst hsz
  have hD := hD0.self (sz := s.heap.size)
  generalize hAe : va_A [(sv, .inr (6, [.null, .null, .null, .null]))] s.heap.size = A at hD hZ ⊢
  have hA : ∀ q : Nat, s.heap.size ≤ q → A q := fun q h => by rw [← hAe]; exact Or.inr h
  have hS : va_S A s.heap s.heap [] := va_S.rf
  have hP : va_P D vwCl [(sv, .inr (6, [.null, .null, .null, .null]))] s.heap := hP
  have hl := lv_entry ([.ref sv, .ref n]) (n := 2) (Nat.le_of_ble_eq_true rfl)
  rw [lg_entry_eq]
  generalize (lg_sl ([.ref sv, .ref n]) ++ List.replicate (2 - (lg_sl ([.ref sv, .ref n])).length) Slot.unset).toArray = ls at hl ⊢
  have hl : lv_has ls 2 [(0, .ref sv), (1, .ref n)] := hl
  refine lv_aload_n hx hb dX6_init_0 rfl (lv_at hl 0 rfl) ?_
  refine W.objInit hx hb hown (hts (Cond.methodLink RX6 3 objectInit) qw_926) (hts (Cond.instanceMethod objectInit) qw_911) (hts (Cond.code objectInit ⟨#[0xb1]⟩ 1 none) qw_912) rfl (by rw [hml]; exact hl.1) rfl dX6_init_1 (Nat.le_of_ble_eq_true rfl) (Nat.le_of_ble_eq_true rfl) ?_
  refine W.eq (g2 := F0 m 4 ls []) rfl ?_
  refine lv_aload_n hx hb dX6_init_4 rfl (lv_at hl 0 rfl) ?_
  refine lv_bipush (v := 12) hx hb dX6_init_5 (by decide) ?_
  refine va_newa (atype := .int) (ty := .int) (N' := 12) (a0 := (12, .inl (fun _ => 0))) hx hb (hts (Cond.arrayClass .int) qw_913) rfl hK hP hD hS hA (fun _ => rfl) (by decide) (by decide +kernel) (by decide) (Nat.le_of_ble_eq_true rfl) (Nat.le_of_ble_eq_true rfl) dX6_init_7 (fun q_117771 cA H hK9 hP hD hS => ?_)
  obtain rfl : cA = g 0 := tz_clsI hK hK9
  have hP : va_P D vwCl [(sv, .inr (6, [.null, .null, .null, .null])), (wI g q_117771 0 12 (fun _ => 0))] H := hP
  have hD : va_D A [(sv, .inr (6, [.null, .null, .null, .null])), (wI g q_117771 0 12 (fun _ => 0))] := hD
  refine W.widen (k := 1) (n := 12) (by decide) (by decide) ?_
  refine va_putF (D := D) (ci := 6) (v := .ref q_117771) (ty := .array .int) (C := RX6) (T := TX6) (N := 4) hx hb hts inlX6 tyX6 tyX6_ok nmX6 hown hK hP hD hS 0 rfl rfl 2 (by decide) (hts (Cond.fieldLink RX6 9 "ChanceRings$Solver" "keep" "[I") qw_587) (fun _ h9 => h9) rfl hin rfl (by decide +kernel) rfl rfl (Nat.le_of_ble_eq_true rfl) dX6_init_9 (fun H locs hP hD hS => ?_)
  have hP : va_P D vwCl [(sv, .inr (6, [.null, .null, .ref q_117771, .null])), (wI g q_117771 0 12 (fun _ => 0))] H := hP
  have hD : va_D A [(sv, .inr (6, [.null, .null, .ref q_117771, .null])), (wI g q_117771 0 12 (fun _ => 0))] := hD
  refine lv_aload_n hx hb dX6_init_12 rfl (lv_at hl 0 rfl) ?_
  refine lv_bipush (v := 12) hx hb dX6_init_13 (by decide) ?_
  refine va_newa (atype := .long) (ty := .long) (N' := 12) (a0 := (12, .inr (.inl (fun _ => 0)))) hx hb (hts (Cond.arrayClass .long) qw_916) rfl hK hP hD hS hA (fun _ => rfl) (by decide) (by decide +kernel) (by decide) (Nat.le_of_ble_eq_true rfl) (Nat.le_of_ble_eq_true rfl) dX6_init_15 (fun q_117772 cA H hK9 hP hD hS => ?_)
  obtain rfl : cA = g 1 := tz_clsJ hK hK9
  have hP : va_P D vwCl [(sv, .inr (6, [.null, .null, .ref q_117771, .null])), (wI g q_117771 0 12 (fun _ => 0)), (wJ g q_117772 1 12 (fun _ => 0))] H := hP
  have hD : va_D A [(sv, .inr (6, [.null, .null, .ref q_117771, .null])), (wI g q_117771 0 12 (fun _ => 0)), (wJ g q_117772 1 12 (fun _ => 0))] := hD
  refine W.widen (k := 2) (n := 24) (by decide) (by decide) ?_
  refine va_putF (D := D) (ci := 6) (v := .ref q_117772) (ty := .array .long) (C := RX6) (T := TX6) (N := 4) hx hb hts inlX6 tyX6 tyX6_ok nmX6 hown hK hP hD hS 0 rfl rfl 3 (by decide) (hts (Cond.fieldLink RX6 15 "ChanceRings$Solver" "scaled" "[J") qw_612) (fun _ h9 => h9) rfl hin rfl (by decide +kernel) rfl rfl (Nat.le_of_ble_eq_true rfl) dX6_init_17 (fun H locs hP hD hS => ?_)
  have hP : va_P D vwCl [(sv, .inr (6, [.null, .null, .ref q_117771, .ref q_117772])), (wI g q_117771 0 12 (fun _ => 0)), (wJ g q_117772 1 12 (fun _ => 0))] H := hP
  have hD : va_D A [(sv, .inr (6, [.null, .null, .ref q_117771, .ref q_117772])), (wI g q_117771 0 12 (fun _ => 0)), (wJ g q_117772 1 12 (fun _ => 0))] := hD
  refine lv_aload_n hx hb dX6_init_20 rfl (lv_at hl 0 rfl) ?_
  refine lv_aload_n hx hb dX6_init_21 rfl (lv_at hl 1 rfl) ?_
  refine va_putF (D := D) (ci := 6) (v := .ref n) (ty := .object "ChanceRings$Net") (C := RX6) (T := TX6) (N := 4) hx hb hts inlX6 tyX6 tyX6_ok nmX6 hown hK hP hD hS 0 rfl rfl 0 (by decide) (hts (Cond.fieldLink RX6 19 "ChanceRings$Solver" "net" "LChanceRings$Net;") qw_548) (fun _ h9 => h9) rfl hin rfl (by decide +kernel) rfl rfl (Nat.le_of_ble_eq_true rfl) dX6_init_22 (fun H locs hP hD hS => ?_)
  have hP : va_P D vwCl [(sv, .inr (6, [.ref n, .null, .ref q_117771, .ref q_117772])), (wI g q_117771 0 12 (fun _ => 0)), (wJ g q_117772 1 12 (fun _ => 0))] H := hP
  have hD : va_D A [(sv, .inr (6, [.ref n, .null, .ref q_117771, .ref q_117772])), (wI g q_117771 0 12 (fun _ => 0)), (wJ g q_117772 1 12 (fun _ => 0))] := hD
  refine lv_aload_n hx hb dX6_init_25 rfl (lv_at hl 0 rfl) ?_
  refine va_new (ci := 0) (fs := [.null, .null, .null]) (C := RX0) (T := TX0) (N := 3) hx hb hts inlX0 tyX0 tyX0_ok hown (hts (Cond.classLink RX6 23 RX0) qw_927) (hts (Cond.instantiable RX0 3) qw_928) (hts (Cond.initialized RX0) qw_490) hK hP hD hS hA rfl hfs_X0 (Nat.le_of_ble_eq_true rfl) (Nat.le_of_ble_eq_true rfl) dX6_init_26 (fun q_117773 H hP hD hS => ?_)
  have hP : va_P D vwCl [(sv, .inr (6, [.ref n, .null, .ref q_117771, .ref q_117772])), (wI g q_117771 0 12 (fun _ => 0)), (wJ g q_117772 1 12 (fun _ => 0)), (q_117773, .inr (0, [.null, .null, .null]))] H := hP
  have hD : va_D A [(sv, .inr (6, [.ref n, .null, .ref q_117771, .ref q_117772])), (wI g q_117771 0 12 (fun _ => 0)), (wJ g q_117772 1 12 (fun _ => 0)), (q_117773, .inr (0, [.null, .null, .null]))] := hD
  refine W.widen (k := 3) (n := 27) (by decide) (by decide) ?_
  refine lv_dup hx hb dX6_init_29 rfl ?_
  refine lv_aload_n hx hb dX6_init_30 rfl (lv_at hl 1 rfl) ?_
  have hPc := hP.sub (ws' := [(q_117773, .inr (0, [.null, .null, .null]))]) [3] rfl
  have hDc := hD.sub (ws' := [(q_117773, .inr (0, [.null, .null, .null]))]) [3] (by decide) rfl
  have hFc := va_free (wc := [(q_117773, .inr (0, [.null, .null, .null]))]) hD hS hA [3] rfl
  refine va_callv (va_runI (As := [.ref n]) (rest := [.ref q_117773, .ref sv]) ⟨hx, hb, hml, hown, hts⟩ (c_X0_init l D g H.size ka kv ff q_117773 n) (cwI 1 hts (tz_gC qw_929) rfl rfl rfl (hts (Cond.initialized RX0) qw_490) (hts (Cond.methodLink RX6 25 yX0_init) qw_930) (hts (Cond.instanceMethod yX0_init) qw_931) rfl (by decide +kernel) ⟨Nat.le_of_ble_eq_true rfl, Nat.le_of_ble_eq_true rfl⟩) ⟨tz_blI, tz_preI hPc hK hDc (hZ.kept hS hFc)⟩ rfl rfl hl.1 rfl (lv_room (Nat.le_of_ble_eq_true rfl)) dX6_init_31 ⟨Nat.le_of_ble_eq_true rfl, Nat.le_of_ble_eq_true rfl⟩) hS (fun q _ h => hFc q h) hFc (fun u t H1 locs ht hvm hw hB hz1 hk1 hS => ?_)
  obtain ⟨co_place_117775, eq_117776, eq_rows_117777, eq_right_117778, rr_117779, hP1, hD1⟩ := hB
  rw [ht] at hP1
  obtain ⟨hP, hD⟩ := va_join (wr := [(sv, .inr (6, [.ref n, .null, .ref q_117771, .ref q_117772])), (wI g q_117771 0 12 (fun _ => 0)), (wJ g q_117772 1 12 (fun _ => 0))]) (w1 := [(wO0 q_117773 n eq_117776 co_place_117775), (wI g co_place_117775 0 12 (fun _ => 0)), (wO1 eq_117776 eq_rows_117777 eq_right_117778 0), (wJ g eq_right_117778 1 8 (fun _ => 0)), (wR g eq_rows_117777 5 8 (fun i => if i < 8 then some (rr_117779 i) else none)), (wJ g (rr_117779 0) 1 8 (fun _ => 0)), (wJ g (rr_117779 1) 1 8 (fun _ => 0)), (wJ g (rr_117779 2) 1 8 (fun _ => 0)), (wJ g (rr_117779 3) 1 8 (fun _ => 0)), (wJ g (rr_117779 4) 1 8 (fun _ => 0)), (wJ g (rr_117779 5) 1 8 (fun _ => 0)), (wJ g (rr_117779 6) 1 8 (fun _ => 0)), (wJ g (rr_117779 7) 1 8 (fun _ => 0))]) hP hD [3] [0, 1, 2] rfl rfl (by decide) (by decide) hk1 hFc hP1 hD1
  generalize H1 = H at hP hS ⊢
  have hP : va_P D vwCl [(sv, .inr (6, [.ref n, .null, .ref q_117771, .ref q_117772])), (wI g q_117771 0 12 (fun _ => 0)), (wJ g q_117772 1 12 (fun _ => 0)), (wO0 q_117773 n eq_117776 co_place_117775), (wI g co_place_117775 0 12 (fun _ => 0)), (wO1 eq_117776 eq_rows_117777 eq_right_117778 0), (wJ g eq_right_117778 1 8 (fun _ => 0)), (wR g eq_rows_117777 5 8 (fun i => if i < 8 then some (rr_117779 i) else none)), (wJ g (rr_117779 0) 1 8 (fun _ => 0)), (wJ g (rr_117779 1) 1 8 (fun _ => 0)), (wJ g (rr_117779 2) 1 8 (fun _ => 0)), (wJ g (rr_117779 3) 1 8 (fun _ => 0)), (wJ g (rr_117779 4) 1 8 (fun _ => 0)), (wJ g (rr_117779 5) 1 8 (fun _ => 0)), (wJ g (rr_117779 6) 1 8 (fun _ => 0)), (wJ g (rr_117779 7) 1 8 (fun _ => 0))] H := hP
  have hD : va_D A [(sv, .inr (6, [.ref n, .null, .ref q_117771, .ref q_117772])), (wI g q_117771 0 12 (fun _ => 0)), (wJ g q_117772 1 12 (fun _ => 0)), (wO0 q_117773 n eq_117776 co_place_117775), (wI g co_place_117775 0 12 (fun _ => 0)), (wO1 eq_117776 eq_rows_117777 eq_right_117778 0), (wJ g eq_right_117778 1 8 (fun _ => 0)), (wR g eq_rows_117777 5 8 (fun i => if i < 8 then some (rr_117779 i) else none)), (wJ g (rr_117779 0) 1 8 (fun _ => 0)), (wJ g (rr_117779 1) 1 8 (fun _ => 0)), (wJ g (rr_117779 2) 1 8 (fun _ => 0)), (wJ g (rr_117779 3) 1 8 (fun _ => 0)), (wJ g (rr_117779 4) 1 8 (fun _ => 0)), (wJ g (rr_117779 5) 1 8 (fun _ => 0)), (wJ g (rr_117779 6) 1 8 (fun _ => 0)), (wJ g (rr_117779 7) 1 8 (fun _ => 0))] := hD
  refine W.widen (k := 15) (n := 122) (by decide) (by decide) ?_
  refine va_putF (D := D) (ci := 6) (v := .ref q_117773) (ty := .object "ChanceRings$Course") (C := RX6) (T := TX6) (N := 4) hx hb hts inlX6 tyX6 tyX6_ok nmX6 hown hK hP hD hS 0 rfl rfl 1 (by decide) (hts (Cond.fieldLink RX6 28 "ChanceRings$Solver" "course" "LChanceRings$Course;") qw_565) (fun _ h9 => h9) rfl hin rfl (by decide +kernel) rfl rfl (Nat.le_of_ble_eq_true rfl) dX6_init_34 (fun H locs hP hD hS => ?_)
  have hP : va_P D vwCl [(wO6 sv n q_117773 q_117771 q_117772), (wI g q_117771 0 12 (fun _ => 0)), (wJ g q_117772 1 12 (fun _ => 0)), (wO0 q_117773 n eq_117776 co_place_117775), (wI g co_place_117775 0 12 (fun _ => 0)), (wO1 eq_117776 eq_rows_117777 eq_right_117778 0), (wJ g eq_right_117778 1 8 (fun _ => 0)), (wR g eq_rows_117777 5 8 (fun i => if i < 8 then some (rr_117779 i) else none)), (wJ g (rr_117779 0) 1 8 (fun _ => 0)), (wJ g (rr_117779 1) 1 8 (fun _ => 0)), (wJ g (rr_117779 2) 1 8 (fun _ => 0)), (wJ g (rr_117779 3) 1 8 (fun _ => 0)), (wJ g (rr_117779 4) 1 8 (fun _ => 0)), (wJ g (rr_117779 5) 1 8 (fun _ => 0)), (wJ g (rr_117779 6) 1 8 (fun _ => 0)), (wJ g (rr_117779 7) 1 8 (fun _ => 0))] H := hP
  have hD : va_D A [(wO6 sv n q_117773 q_117771 q_117772), (wI g q_117771 0 12 (fun _ => 0)), (wJ g q_117772 1 12 (fun _ => 0)), (wO0 q_117773 n eq_117776 co_place_117775), (wI g co_place_117775 0 12 (fun _ => 0)), (wO1 eq_117776 eq_rows_117777 eq_right_117778 0), (wJ g eq_right_117778 1 8 (fun _ => 0)), (wR g eq_rows_117777 5 8 (fun i => if i < 8 then some (rr_117779 i) else none)), (wJ g (rr_117779 0) 1 8 (fun _ => 0)), (wJ g (rr_117779 1) 1 8 (fun _ => 0)), (wJ g (rr_117779 2) 1 8 (fun _ => 0)), (wJ g (rr_117779 3) 1 8 (fun _ => 0)), (wJ g (rr_117779 4) 1 8 (fun _ => 0)), (wJ g (rr_117779 5) 1 8 (fun _ => 0)), (wJ g (rr_117779 6) 1 8 (fun _ => 0)), (wJ g (rr_117779 7) 1 8 (fun _ => 0))] := hD
  have hP9 := hP.sub (ws' := [(wO6 sv n q_117773 q_117771 q_117772), (wI g q_117771 0 12 (fun _ => 0)), (wJ g q_117772 1 12 (fun _ => 0)), (wO0 q_117773 n eq_117776 co_place_117775), (wI g co_place_117775 0 12 (fun _ => 0)), (wO1 eq_117776 eq_rows_117777 eq_right_117778 0), (wJ g eq_right_117778 1 8 (fun _ => 0)), (wR g eq_rows_117777 5 8 (fun i => if i < 8 then some (rr_117779 i) else none)), (wJ g (rr_117779 0) 1 8 (fun _ => 0)), (wJ g (rr_117779 1) 1 8 (fun _ => 0)), (wJ g (rr_117779 2) 1 8 (fun _ => 0)), (wJ g (rr_117779 3) 1 8 (fun _ => 0)), (wJ g (rr_117779 4) 1 8 (fun _ => 0)), (wJ g (rr_117779 5) 1 8 (fun _ => 0)), (wJ g (rr_117779 6) 1 8 (fun _ => 0)), (wJ g (rr_117779 7) 1 8 (fun _ => 0))]) [0, 1, 2, 3, 4, 5, 6, 7, 8, 9, 10, 11, 12, 13, 14, 15] rfl
  have hD9 := hD.sub (ws' := [(wO6 sv n q_117773 q_117771 q_117772), (wI g q_117771 0 12 (fun _ => 0)), (wJ g q_117772 1 12 (fun _ => 0)), (wO0 q_117773 n eq_117776 co_place_117775), (wI g co_place_117775 0 12 (fun _ => 0)), (wO1 eq_117776 eq_rows_117777 eq_right_117778 0), (wJ g eq_right_117778 1 8 (fun _ => 0)), (wR g eq_rows_117777 5 8 (fun i => if i < 8 then some (rr_117779 i) else none)), (wJ g (rr_117779 0) 1 8 (fun _ => 0)), (wJ g (rr_117779 1) 1 8 (fun _ => 0)), (wJ g (rr_117779 2) 1 8 (fun _ => 0)), (wJ g (rr_117779 3) 1 8 (fun _ => 0)), (wJ g (rr_117779 4) 1 8 (fun _ => 0)), (wJ g (rr_117779 5) 1 8 (fun _ => 0)), (wJ g (rr_117779 6) 1 8 (fun _ => 0)), (wJ g (rr_117779 7) 1 8 (fun _ => 0))]) [0, 1, 2, 3, 4, 5, 6, 7, 8, 9, 10, 11, 12, 13, 14, 15] (by decide) rfl
  exact W.vret hx hb hr (fun t ht hW => ⟨⟨(), rfl, trivial, q_117771, q_117772, q_117773, co_place_117775, eq_117776, eq_rows_117777, eq_right_117778, rr_117779, by rw [ht]; exact hP9, hD9⟩, hS.F ht⟩) hS.2.2 dX6_init_37
set_option maxHeartbeats 4000000 in
set_option maxRecDepth 100000 in
theorem c_X3_init (l : Launch) (D : va_G) (g : Nat → ClassId) (sz : Nat) (ka kv : Nat → Nat) (ff : Nat → Nat → Int32) (oc : Nat) (n : Nat) (sv : Nat) : Met l yX3_init (.code yX3_init cX3_init 3 none :: wsL_law) ({ frames := 2, cells := 7, slots := 64, locals := 32 }) (va_Pc [.ref oc, .ref n, .ref sv] (fun U => U.heap.size = sz ∧ va_P D vwCl [(oc, .inr (3, [.null, .null, .null, .null, .null, .null, .null, .int 0, .int 0, .int 0]))] U.heap ∧ va_K D vwCl (TY g) U ∧ va_D (fun _ => True) [(oc, .inr (3, [.null, .null, .null, .null, .null, .null, .null, .int 0, .int 0, .int 0]))] ∧ ZI ka kv ff (va_A [(oc, .inr (3, [.null, .null, .null, .null, .null, .null, .null, .int 0, .int 0, .int 0]))] sz) U U.heap)) (va_Qv (fun (_ : Unit) => True) (fun _ t => ∃ oc_plan : Nat, ∃ oc_reach : Nat, ∃ oc_ringBits : Nat, ∃ ow : Nat, ∃ ow_part : Nat, ∃ ol : Nat, ∃ ol_part : Nat, va_P D vwCl [(wO3 oc n sv oc_plan ow ol oc_reach oc_ringBits 0 0 0), (wI g oc_plan 0 12 (fun _ => 0)), (wI g oc_reach 0 12 (fun _ => 0)), (wI g oc_ringBits 0 12 (fun _ => 0)), (wO10 ow ow_part 1), (wJ g ow_part 1 12 (fun _ => 0)), (wO10 ol ol_part 1), (wJ g ol_part 1 12 (fun _ => 0))] t.heap ∧ va_D (va_A [(oc, .inr (3, [.null, .null, .null, .null, .null, .null, .null, .int 0, .int 0, .int 0]))] sz) [(wO3 oc n sv oc_plan ow ol oc_reach oc_ringBits 0 0 0), (wI g oc_plan 0 12 (fun _ => 0)), (wI g oc_reach 0 12 (fun _ => 0)), (wI g oc_ringBits 0 12 (fun _ => 0)), (wO10 ow ow_part 1), (wJ g ow_part 1 12 (fun _ => 0)), (wO10 ol ol_part 1), (wJ g ol_part 1 12 (fun _ => 0))]) (va_A [(oc, .inr (3, [.null, .null, .null, .null, .null, .null, .null, .int 0, .int 0, .int 0]))] sz)) 7 64 (va_A [(oc, .inr (3, [.null, .null, .null, .null, .null, .null, .null, .int 0, .int 0, .int 0]))] sz) := by
  refine Met.ofW (cc := cX3_init) (maxL := 3) (ret := none) (by decide) rfl ?_
  intro p e s m args below meth c s₁ B hml hv
  obtain ⟨rfl, hsz, hP, hK, hD0, hZ⟩ := hv
  have hx := B.exec
  have hb := B.bytes
  have hr := B.returns
  have hts0 := atoms_spec (ws := (.code yX3_init cX3_init 3 none :: wsL_law)) B.pre
  have hts : ∀ w ∈ wsL_law, w.before _ s = true := fun w h => hts0 w (List.mem_cons_of_mem _ h)
  have hown : s.vm.findClass RX3 = some m.cls := findClass_of_methodNamed B.named
  have hlocks := B.notSynchronized
  have hin : meth.name = "<init>" := (name_of_methodNamed B.named B.method).1
  subst hsz
  have hD := hD0.self (sz := s.heap.size)
  generalize hAe : va_A [(oc, .inr (3, [.null, .null, .null, .null, .null, .null, .null, .int 0, .int 0, .int 0]))] s.heap.size = A at hD hZ ⊢
  have hA : ∀ q : Nat, s.heap.size ≤ q → A q := fun q h => by rw [← hAe]; exact Or.inr h
  have hS : va_S A s.heap s.heap [] := va_S.rf
  have hP : va_P D vwCl [(oc, .inr (3, [.null, .null, .null, .null, .null, .null, .null, .int 0, .int 0, .int 0]))] s.heap := hP
  have hl := lv_entry ([.ref oc, .ref n, .ref sv]) (n := 3) (Nat.le_of_ble_eq_true rfl)
  rw [lg_entry_eq]
  generalize (lg_sl ([.ref oc, .ref n, .ref sv]) ++ List.replicate (3 - (lg_sl ([.ref oc, .ref n, .ref sv])).length) Slot.unset).toArray = ls at hl ⊢
  have hl : lv_has ls 3 [(0, .ref oc), (1, .ref n), (2, .ref sv)] := hl
  refine lv_aload_n hx hb dX3_init_0 rfl (lv_at hl 0 rfl) ?_
  refine W.objInit hx hb hown (hts (Cond.methodLink RX3 3 objectInit) qw_932) (hts (Cond.instanceMethod objectInit) qw_911) (hts (Cond.code objectInit ⟨#[0xb1]⟩ 1 none) qw_912) rfl (by rw [hml]; exact hl.1) rfl dX3_init_1 (Nat.le_of_ble_eq_true rfl) (Nat.le_of_ble_eq_true rfl) ?_
  refine W.eq (g2 := F0 m 4 ls []) rfl ?_
  refine lv_aload_n hx hb dX3_init_4 rfl (lv_at hl 0 rfl) ?_
  refine lv_bipush (v := 12) hx hb dX3_init_5 (by decide) ?_
  refine va_newa (atype := .int) (ty := .int) (N' := 12) (a0 := (12, .inl (fun _ => 0))) hx hb (hts (Cond.arrayClass .int) qw_913) rfl hK hP hD hS hA (fun _ => rfl) (by decide) (by decide +kernel) (by decide) (Nat.le_of_ble_eq_true rfl) (Nat.le_of_ble_eq_true rfl) dX3_init_7 (fun q_117780 cA H hK9 hP hD hS => ?_)
  obtain rfl : cA = g 0 := tz_clsI hK hK9
  have hP : va_P D vwCl [(oc, .inr (3, [.null, .null, .null, .null, .null, .null, .null, .int 0, .int 0, .int 0])), (wI g q_117780 0 12 (fun _ => 0))] H := hP
  have hD : va_D A [(oc, .inr (3, [.null, .null, .null, .null, .null, .null, .null, .int 0, .int 0, .int 0])), (wI g q_117780 0 12 (fun _ => 0))] := hD
  refine W.widen (k := 1) (n := 12) (by decide) (by decide) ?_
  refine va_putF (D := D) (ci := 3) (v := .ref q_117780) (ty := .array .int) (C := RX3) (T := TX3) (N := 10) hx hb hts inlX3 tyX3 tyX3_ok nmX3 hown hK hP hD hS 0 rfl rfl 2 (by decide) (hts (Cond.fieldLink RX3 9 "ChanceRings$Outcome" "plan" "[I") qw_641) (fun _ h9 => h9) rfl hin rfl (by decide +kernel) rfl rfl (Nat.le_of_ble_eq_true rfl) dX3_init_9 (fun H locs hP hD hS => ?_)
  have hP : va_P D vwCl [(oc, .inr (3, [.null, .null, .ref q_117780, .null, .null, .null, .null, .int 0, .int 0, .int 0])), (wI g q_117780 0 12 (fun _ => 0))] H := hP
  have hD : va_D A [(oc, .inr (3, [.null, .null, .ref q_117780, .null, .null, .null, .null, .int 0, .int 0, .int 0])), (wI g q_117780 0 12 (fun _ => 0))] := hD
  refine lv_aload_n hx hb dX3_init_12 rfl (lv_at hl 0 rfl) ?_
  refine va_new (ci := 10) (fs := [.null, .long 0]) (C := RX10) (T := TX10) (N := 2) hx hb hts inlX10 tyX10 tyX10_ok hown (hts (Cond.classLink RX3 15 RX10) qw_933) (hts (Cond.instantiable RX10 2) qw_934) (hts (Cond.initialized RX10) qw_338) hK hP hD hS hA rfl hfs_X10 (Nat.le_of_ble_eq_true rfl) (Nat.le_of_ble_eq_true rfl) dX3_init_13 (fun q_117781 H hP hD hS => ?_)
  have hP : va_P D vwCl [(oc, .inr (3, [.null, .null, .ref q_117780, .null, .null, .null, .null, .int 0, .int 0, .int 0])), (wI g q_117780 0 12 (fun _ => 0)), (q_117781, .inr (10, [.null, .long 0]))] H := hP
  have hD : va_D A [(oc, .inr (3, [.null, .null, .ref q_117780, .null, .null, .null, .null, .int 0, .int 0, .int 0])), (wI g q_117780 0 12 (fun _ => 0)), (q_117781, .inr (10, [.null, .long 0]))] := hD
  refine W.widen (k := 2) (n := 14) (by decide) (by decide) ?_
  refine lv_dup hx hb dX3_init_16 rfl ?_
  have hPc := hP.sub (ws' := [(q_117781, .inr (10, [.null, .long 0]))]) [2] rfl
  have hDc := hD.sub (ws' := [(q_117781, .inr (10, [.null, .long 0]))]) [2] (by decide) rfl
  have hFc := va_free (wc := [(q_117781, .inr (10, [.null, .long 0]))]) hD hS hA [2] rfl
  refine va_callv (va_runIN (As := []) (rest := [.ref q_117781, .ref oc]) ⟨hx, hb, hml, hown, hts⟩ (c_X10_init l D g H.size ka kv ff q_117781) ⟨va_cnB 0 hts (tz_gC qw_935) rfl rfl rfl hZ.2.2.2.1 (hts (Cond.initialized RX10) qw_338) (by decide +kernel) ⟨Nat.le_of_ble_eq_true rfl, Nat.le_of_ble_eq_true rfl⟩, rfl, (hts (Cond.instanceMethod yX10_init) qw_936)⟩ ⟨tz_blI, tz_preI hPc hK hDc (hZ.kept hS hFc)⟩ rfl rfl hl.1 rfl (lv_room (Nat.le_of_ble_eq_true rfl)) dX3_init_17 ⟨Nat.le_of_ble_eq_true rfl, Nat.le_of_ble_eq_true rfl⟩) hS (fun q _ h => hFc q h) hFc (fun u t H1 locs ht hvm hw hB hz1 hk1 hS => ?_)
  obtain ⟨vs_part_117783, hP1, hD1⟩ := hB
  rw [ht] at hP1
  obtain ⟨hP, hD⟩ := va_join (wr := [(oc, .inr (3, [.null, .null, .ref q_117780, .null, .null, .null, .null, .int 0, .int 0, .int 0])), (wI g q_117780 0 12 (fun _ => 0))]) (w1 := [(wO10 q_117781 vs_part_117783 1), (wJ g vs_part_117783 1 12 (fun _ => 0))]) hP hD [2] [0, 1] rfl rfl (by decide) (by decide) hk1 hFc hP1 hD1
  generalize H1 = H at hP hS ⊢
  have hP : va_P D vwCl [(oc, .inr (3, [.null, .null, .ref q_117780, .null, .null, .null, .null, .int 0, .int 0, .int 0])), (wI g q_117780 0 12 (fun _ => 0)), (wO10 q_117781 vs_part_117783 1), (wJ g vs_part_117783 1 12 (fun _ => 0))] H := hP
  have hD : va_D A [(oc, .inr (3, [.null, .null, .ref q_117780, .null, .null, .null, .null, .int 0, .int 0, .int 0])), (wI g q_117780 0 12 (fun _ => 0)), (wO10 q_117781 vs_part_117783 1), (wJ g vs_part_117783 1 12 (fun _ => 0))] := hD
  refine W.widen (k := 3) (n := 26) (by decide) (by decide) ?_
  refine va_putF (D := D) (ci := 3) (v := .ref q_117781) (ty := .object "ChanceRings$Values") (C := RX3) (T := TX3) (N := 10) hx hb hts inlX3 tyX3 tyX3_ok nmX3 hown hK hP hD hS 0 rfl rfl 3 (by decide) (hts (Cond.fieldLink RX3 18 "ChanceRings$Outcome" "worth" "LChanceRings$Values;") qw_652) (fun _ h9 => h9) rfl hin rfl (by decide +kernel) rfl rfl (Nat.le_of_ble_eq_true rfl) dX3_init_20 (fun H locs hP hD hS => ?_)
  have hP : va_P D vwCl [(oc, .inr (3, [.null, .null, .ref q_117780, .ref q_117781, .null, .null, .null, .int 0, .int 0, .int 0])), (wI g q_117780 0 12 (fun _ => 0)), (wO10 q_117781 vs_part_117783 1), (wJ g vs_part_117783 1 12 (fun _ => 0))] H := hP
  have hD : va_D A [(oc, .inr (3, [.null, .null, .ref q_117780, .ref q_117781, .null, .null, .null, .int 0, .int 0, .int 0])), (wI g q_117780 0 12 (fun _ => 0)), (wO10 q_117781 vs_part_117783 1), (wJ g vs_part_117783 1 12 (fun _ => 0))] := hD
  refine lv_aload_n hx hb dX3_init_23 rfl (lv_at hl 0 rfl) ?_
  refine va_new (ci := 10) (fs := [.null, .long 0]) (C := RX10) (T := TX10) (N := 2) hx hb hts inlX10 tyX10 tyX10_ok hown (hts (Cond.classLink RX3 15 RX10) qw_933) (hts (Cond.instantiable RX10 2) qw_934) (hts (Cond.initialized RX10) qw_338) hK hP hD hS hA rfl hfs_X10 (Nat.le_of_ble_eq_true rfl) (Nat.le_of_ble_eq_true rfl) dX3_init_24 (fun q_117784 H hP hD hS => ?_)
  have hP : va_P D vwCl [(oc, .inr (3, [.null, .null, .ref q_117780, .ref q_117781, .null, .null, .null, .int 0, .int 0, .int 0])), (wI g q_117780 0 12 (fun _ => 0)), (wO10 q_117781 vs_part_117783 1), (wJ g vs_part_117783 1 12 (fun _ => 0)), (q_117784, .inr (10, [.null, .long 0]))] H := hP
  have hD : va_D A [(oc, .inr (3, [.null, .null, .ref q_117780, .ref q_117781, .null, .null, .null, .int 0, .int 0, .int 0])), (wI g q_117780 0 12 (fun _ => 0)), (wO10 q_117781 vs_part_117783 1), (wJ g vs_part_117783 1 12 (fun _ => 0)), (q_117784, .inr (10, [.null, .long 0]))] := hD
  refine W.widen (k := 4) (n := 28) (by decide) (by decide) ?_
  refine lv_dup hx hb dX3_init_27 rfl ?_
  have hPc := hP.sub (ws' := [(q_117784, .inr (10, [.null, .long 0]))]) [4] rfl
  have hDc := hD.sub (ws' := [(q_117784, .inr (10, [.null, .long 0]))]) [4] (by decide) rfl
  have hFc := va_free (wc := [(q_117784, .inr (10, [.null, .long 0]))]) hD hS hA [4] rfl
  refine va_callv (va_runIN (As := []) (rest := [.ref q_117784, .ref oc]) ⟨hx, hb, hml, hown, hts⟩ (c_X10_init l D g H.size ka kv ff q_117784) ⟨va_cnB 0 hts (tz_gC qw_935) rfl rfl rfl hZ.2.2.2.1 (hts (Cond.initialized RX10) qw_338) (by decide +kernel) ⟨Nat.le_of_ble_eq_true rfl, Nat.le_of_ble_eq_true rfl⟩, rfl, (hts (Cond.instanceMethod yX10_init) qw_936)⟩ ⟨tz_blI, tz_preI hPc hK hDc (hZ.kept hS hFc)⟩ rfl rfl hl.1 rfl (lv_room (Nat.le_of_ble_eq_true rfl)) dX3_init_28 ⟨Nat.le_of_ble_eq_true rfl, Nat.le_of_ble_eq_true rfl⟩) hS (fun q _ h => hFc q h) hFc (fun u t H1 locs ht hvm hw hB hz1 hk1 hS => ?_)
  obtain ⟨vs_part_117786, hP1, hD1⟩ := hB
  rw [ht] at hP1
  obtain ⟨hP, hD⟩ := va_join (wr := [(oc, .inr (3, [.null, .null, .ref q_117780, .ref q_117781, .null, .null, .null, .int 0, .int 0, .int 0])), (wI g q_117780 0 12 (fun _ => 0)), (wO10 q_117781 vs_part_117783 1), (wJ g vs_part_117783 1 12 (fun _ => 0))]) (w1 := [(wO10 q_117784 vs_part_117786 1), (wJ g vs_part_117786 1 12 (fun _ => 0))]) hP hD [4] [0, 1, 2, 3] rfl rfl (by decide) (by decide) hk1 hFc hP1 hD1
  generalize H1 = H at hP hS ⊢
  have hP : va_P D vwCl [(oc, .inr (3, [.null, .null, .ref q_117780, .ref q_117781, .null, .null, .null, .int 0, .int 0, .int 0])), (wI g q_117780 0 12 (fun _ => 0)), (wO10 q_117781 vs_part_117783 1), (wJ g vs_part_117783 1 12 (fun _ => 0)), (wO10 q_117784 vs_part_117786 1), (wJ g vs_part_117786 1 12 (fun _ => 0))] H := hP
  have hD : va_D A [(oc, .inr (3, [.null, .null, .ref q_117780, .ref q_117781, .null, .null, .null, .int 0, .int 0, .int 0])), (wI g q_117780 0 12 (fun _ => 0)), (wO10 q_117781 vs_part_117783 1), (wJ g vs_part_117783 1 12 (fun _ => 0)), (wO10 q_117784 vs_part_117786 1), (wJ g vs_part_117786 1 12 (fun _ => 0))] := hD
  refine W.widen (k := 5) (n := 40) (by decide) (by decide) ?_
  refine va_putF (D := D) (ci := 3) (v := .ref q_117784) (ty := .object "ChanceRings$Values") (C := RX3) (T := TX3) (N := 10) hx hb hts inlX3 tyX3 tyX3_ok nmX3 hown hK hP hD hS 0 rfl rfl 4 (by decide) (hts (Cond.fieldLink RX3 22 "ChanceRings$Outcome" "length" "LChanceRings$Values;") qw_688) (fun _ h9 => h9) rfl hin rfl (by decide +kernel) rfl rfl (Nat.le_of_ble_eq_true rfl) dX3_init_31 (fun H locs hP hD hS => ?_)
  have hP : va_P D vwCl [(oc, .inr (3, [.null, .null, .ref q_117780, .ref q_117781, .ref q_117784, .null, .null, .int 0, .int 0, .int 0])), (wI g q_117780 0 12 (fun _ => 0)), (wO10 q_117781 vs_part_117783 1), (wJ g vs_part_117783 1 12 (fun _ => 0)), (wO10 q_117784 vs_part_117786 1), (wJ g vs_part_117786 1 12 (fun _ => 0))] H := hP
  have hD : va_D A [(oc, .inr (3, [.null, .null, .ref q_117780, .ref q_117781, .ref q_117784, .null, .null, .int 0, .int 0, .int 0])), (wI g q_117780 0 12 (fun _ => 0)), (wO10 q_117781 vs_part_117783 1), (wJ g vs_part_117783 1 12 (fun _ => 0)), (wO10 q_117784 vs_part_117786 1), (wJ g vs_part_117786 1 12 (fun _ => 0))] := hD
  refine lv_aload_n hx hb dX3_init_34 rfl (lv_at hl 0 rfl) ?_
  refine lv_bipush (v := 12) hx hb dX3_init_35 (by decide) ?_
  refine va_newa (atype := .int) (ty := .int) (N' := 12) (a0 := (12, .inl (fun _ => 0))) hx hb (hts (Cond.arrayClass .int) qw_913) rfl hK hP hD hS hA (fun _ => rfl) (by decide) (by decide +kernel) (by decide) (Nat.le_of_ble_eq_true rfl) (Nat.le_of_ble_eq_true rfl) dX3_init_37 (fun q_117787 cA H hK9 hP hD hS => ?_)
  obtain rfl : cA = g 0 := tz_clsI hK hK9
  have hP : va_P D vwCl [(oc, .inr (3, [.null, .null, .ref q_117780, .ref q_117781, .ref q_117784, .null, .null, .int 0, .int 0, .int 0])), (wI g q_117780 0 12 (fun _ => 0)), (wO10 q_117781 vs_part_117783 1), (wJ g vs_part_117783 1 12 (fun _ => 0)), (wO10 q_117784 vs_part_117786 1), (wJ g vs_part_117786 1 12 (fun _ => 0)), (wI g q_117787 0 12 (fun _ => 0))] H := hP
  have hD : va_D A [(oc, .inr (3, [.null, .null, .ref q_117780, .ref q_117781, .ref q_117784, .null, .null, .int 0, .int 0, .int 0])), (wI g q_117780 0 12 (fun _ => 0)), (wO10 q_117781 vs_part_117783 1), (wJ g vs_part_117783 1 12 (fun _ => 0)), (wO10 q_117784 vs_part_117786 1), (wJ g vs_part_117786 1 12 (fun _ => 0)), (wI g q_117787 0 12 (fun _ => 0))] := hD
  refine W.widen (k := 6) (n := 52) (by decide) (by decide) ?_
  refine va_putF (D := D) (ci := 3) (v := .ref q_117787) (ty := .array .int) (C := RX3) (T := TX3) (N := 10) hx hb hts inlX3 tyX3 tyX3_ok nmX3 hown hK hP hD hS 0 rfl rfl 5 (by decide) (hts (Cond.fieldLink RX3 25 "ChanceRings$Outcome" "reach" "[I") qw_638) (fun _ h9 => h9) rfl hin rfl (by decide +kernel) rfl rfl (Nat.le_of_ble_eq_true rfl) dX3_init_39 (fun H locs hP hD hS => ?_)
  have hP : va_P D vwCl [(oc, .inr (3, [.null, .null, .ref q_117780, .ref q_117781, .ref q_117784, .ref q_117787, .null, .int 0, .int 0, .int 0])), (wI g q_117780 0 12 (fun _ => 0)), (wO10 q_117781 vs_part_117783 1), (wJ g vs_part_117783 1 12 (fun _ => 0)), (wO10 q_117784 vs_part_117786 1), (wJ g vs_part_117786 1 12 (fun _ => 0)), (wI g q_117787 0 12 (fun _ => 0))] H := hP
  have hD : va_D A [(oc, .inr (3, [.null, .null, .ref q_117780, .ref q_117781, .ref q_117784, .ref q_117787, .null, .int 0, .int 0, .int 0])), (wI g q_117780 0 12 (fun _ => 0)), (wO10 q_117781 vs_part_117783 1), (wJ g vs_part_117783 1 12 (fun _ => 0)), (wO10 q_117784 vs_part_117786 1), (wJ g vs_part_117786 1 12 (fun _ => 0)), (wI g q_117787 0 12 (fun _ => 0))] := hD
  refine lv_aload_n hx hb dX3_init_42 rfl (lv_at hl 0 rfl) ?_
  refine lv_bipush (v := 12) hx hb dX3_init_43 (by decide) ?_
  refine va_newa (atype := .int) (ty := .int) (N' := 12) (a0 := (12, .inl (fun _ => 0))) hx hb (hts (Cond.arrayClass .int) qw_913) rfl hK hP hD hS hA (fun _ => rfl) (by decide) (by decide +kernel) (by decide) (Nat.le_of_ble_eq_true rfl) (Nat.le_of_ble_eq_true rfl) dX3_init_45 (fun q_117788 cA H hK9 hP hD hS => ?_)
  obtain rfl : cA = g 0 := tz_clsI hK hK9
  have hP : va_P D vwCl [(oc, .inr (3, [.null, .null, .ref q_117780, .ref q_117781, .ref q_117784, .ref q_117787, .null, .int 0, .int 0, .int 0])), (wI g q_117780 0 12 (fun _ => 0)), (wO10 q_117781 vs_part_117783 1), (wJ g vs_part_117783 1 12 (fun _ => 0)), (wO10 q_117784 vs_part_117786 1), (wJ g vs_part_117786 1 12 (fun _ => 0)), (wI g q_117787 0 12 (fun _ => 0)), (wI g q_117788 0 12 (fun _ => 0))] H := hP
  have hD : va_D A [(oc, .inr (3, [.null, .null, .ref q_117780, .ref q_117781, .ref q_117784, .ref q_117787, .null, .int 0, .int 0, .int 0])), (wI g q_117780 0 12 (fun _ => 0)), (wO10 q_117781 vs_part_117783 1), (wJ g vs_part_117783 1 12 (fun _ => 0)), (wO10 q_117784 vs_part_117786 1), (wJ g vs_part_117786 1 12 (fun _ => 0)), (wI g q_117787 0 12 (fun _ => 0)), (wI g q_117788 0 12 (fun _ => 0))] := hD
  refine W.widen (k := 7) (n := 64) (by decide) (by decide) ?_
  refine va_putF (D := D) (ci := 3) (v := .ref q_117788) (ty := .array .int) (C := RX3) (T := TX3) (N := 10) hx hb hts inlX3 tyX3 tyX3_ok nmX3 hown hK hP hD hS 0 rfl rfl 6 (by decide) (hts (Cond.fieldLink RX3 28 "ChanceRings$Outcome" "ringBits" "[I") qw_651) (fun _ h9 => h9) rfl hin rfl (by decide +kernel) rfl rfl (Nat.le_of_ble_eq_true rfl) dX3_init_47 (fun H locs hP hD hS => ?_)
  have hP : va_P D vwCl [(oc, .inr (3, [.null, .null, .ref q_117780, .ref q_117781, .ref q_117784, .ref q_117787, .ref q_117788, .int 0, .int 0, .int 0])), (wI g q_117780 0 12 (fun _ => 0)), (wO10 q_117781 vs_part_117783 1), (wJ g vs_part_117783 1 12 (fun _ => 0)), (wO10 q_117784 vs_part_117786 1), (wJ g vs_part_117786 1 12 (fun _ => 0)), (wI g q_117787 0 12 (fun _ => 0)), (wI g q_117788 0 12 (fun _ => 0))] H := hP
  have hD : va_D A [(oc, .inr (3, [.null, .null, .ref q_117780, .ref q_117781, .ref q_117784, .ref q_117787, .ref q_117788, .int 0, .int 0, .int 0])), (wI g q_117780 0 12 (fun _ => 0)), (wO10 q_117781 vs_part_117783 1), (wJ g vs_part_117783 1 12 (fun _ => 0)), (wO10 q_117784 vs_part_117786 1), (wJ g vs_part_117786 1 12 (fun _ => 0)), (wI g q_117787 0 12 (fun _ => 0)), (wI g q_117788 0 12 (fun _ => 0))] := hD
  refine lv_aload_n hx hb dX3_init_50 rfl (lv_at hl 0 rfl) ?_
  refine lv_aload_n hx hb dX3_init_51 rfl (lv_at hl 1 rfl) ?_
  refine va_putF (D := D) (ci := 3) (v := .ref n) (ty := .object "ChanceRings$Net") (C := RX3) (T := TX3) (N := 10) hx hb hts inlX3 tyX3 tyX3_ok nmX3 hown hK hP hD hS 0 rfl rfl 0 (by decide) (hts (Cond.fieldLink RX3 31 "ChanceRings$Outcome" "net" "LChanceRings$Net;") qw_636) (fun _ h9 => h9) rfl hin rfl (by decide +kernel) rfl rfl (Nat.le_of_ble_eq_true rfl) dX3_init_52 (fun H locs hP hD hS => ?_)
  have hP : va_P D vwCl [(oc, .inr (3, [.ref n, .null, .ref q_117780, .ref q_117781, .ref q_117784, .ref q_117787, .ref q_117788, .int 0, .int 0, .int 0])), (wI g q_117780 0 12 (fun _ => 0)), (wO10 q_117781 vs_part_117783 1), (wJ g vs_part_117783 1 12 (fun _ => 0)), (wO10 q_117784 vs_part_117786 1), (wJ g vs_part_117786 1 12 (fun _ => 0)), (wI g q_117787 0 12 (fun _ => 0)), (wI g q_117788 0 12 (fun _ => 0))] H := hP
  have hD : va_D A [(oc, .inr (3, [.ref n, .null, .ref q_117780, .ref q_117781, .ref q_117784, .ref q_117787, .ref q_117788, .int 0, .int 0, .int 0])), (wI g q_117780 0 12 (fun _ => 0)), (wO10 q_117781 vs_part_117783 1), (wJ g vs_part_117783 1 12 (fun _ => 0)), (wO10 q_117784 vs_part_117786 1), (wJ g vs_part_117786 1 12 (fun _ => 0)), (wI g q_117787 0 12 (fun _ => 0)), (wI g q_117788 0 12 (fun _ => 0))] := hD
  refine lv_aload_n hx hb dX3_init_55 rfl (lv_at hl 0 rfl) ?_
  refine lv_aload_n hx hb dX3_init_56 rfl (lv_at hl 2 rfl) ?_
  refine va_putF (D := D) (ci := 3) (v := .ref sv) (ty := .object "ChanceRings$Solver") (C := RX3) (T := TX3) (N := 10) hx hb hts inlX3 tyX3 tyX3_ok nmX3 hown hK hP hD hS 0 rfl rfl 1 (by decide) (hts (Cond.fieldLink RX3 35 "ChanceRings$Outcome" "solver" "LChanceRings$Solver;") qw_639) (fun _ h9 => h9) rfl hin rfl (by decide +kernel) rfl rfl (Nat.le_of_ble_eq_true rfl) dX3_init_57 (fun H locs hP hD hS => ?_)
  have hP : va_P D vwCl [(wO3 oc n sv q_117780 q_117781 q_117784 q_117787 q_117788 0 0 0), (wI g q_117780 0 12 (fun _ => 0)), (wO10 q_117781 vs_part_117783 1), (wJ g vs_part_117783 1 12 (fun _ => 0)), (wO10 q_117784 vs_part_117786 1), (wJ g vs_part_117786 1 12 (fun _ => 0)), (wI g q_117787 0 12 (fun _ => 0)), (wI g q_117788 0 12 (fun _ => 0))] H := hP
  have hD : va_D A [(wO3 oc n sv q_117780 q_117781 q_117784 q_117787 q_117788 0 0 0), (wI g q_117780 0 12 (fun _ => 0)), (wO10 q_117781 vs_part_117783 1), (wJ g vs_part_117783 1 12 (fun _ => 0)), (wO10 q_117784 vs_part_117786 1), (wJ g vs_part_117786 1 12 (fun _ => 0)), (wI g q_117787 0 12 (fun _ => 0)), (wI g q_117788 0 12 (fun _ => 0))] := hD
  have hP9 := hP.sub (ws' := [(wO3 oc n sv q_117780 q_117781 q_117784 q_117787 q_117788 0 0 0), (wI g q_117780 0 12 (fun _ => 0)), (wI g q_117787 0 12 (fun _ => 0)), (wI g q_117788 0 12 (fun _ => 0)), (wO10 q_117781 vs_part_117783 1), (wJ g vs_part_117783 1 12 (fun _ => 0)), (wO10 q_117784 vs_part_117786 1), (wJ g vs_part_117786 1 12 (fun _ => 0))]) [0, 1, 6, 7, 2, 3, 4, 5] rfl
  have hD9 := hD.sub (ws' := [(wO3 oc n sv q_117780 q_117781 q_117784 q_117787 q_117788 0 0 0), (wI g q_117780 0 12 (fun _ => 0)), (wI g q_117787 0 12 (fun _ => 0)), (wI g q_117788 0 12 (fun _ => 0)), (wO10 q_117781 vs_part_117783 1), (wJ g vs_part_117783 1 12 (fun _ => 0)), (wO10 q_117784 vs_part_117786 1), (wJ g vs_part_117786 1 12 (fun _ => 0))]) [0, 1, 6, 7, 2, 3, 4, 5] (by decide) rfl
  exact W.vret hx hb hr (fun t ht hW => ⟨⟨(), rfl, trivial, q_117780, q_117787, q_117788, q_117781, vs_part_117783, q_117784, vs_part_117786, by rw [ht]; exact hP9, hD9⟩, hS.F ht⟩) hS.2.2 dX3_init_60
theorem qw_937 : Cond.methodLink RX4 3 objectInit ∈ wsL_law := tseg_1 (by decide +kernel) (List.mem_of_getElem? (i := 115) rfl)
theorem qw_938 : Cond.code yX11_pack cX11_pack 3 (some .int) ∈ wsL_law := tseg_1 (by decide +kernel) (List.mem_of_getElem? (i := 119) rfl)
theorem qw_939 : Cond.static yX11_pack ∈ wsL_law := tseg_1 (by decide +kernel) (List.mem_of_getElem? (i := 118) rfl)
theorem dX4_init_0 : decode cX4_init 0 = .ok (.aload_n 0, 1) := by decide +kernel
theorem dX4_init_1 : decode cX4_init 1 = .ok (.invokespecial 3, 3) := by decide +kernel
theorem dX4_init_4 : decode cX4_init 4 = .ok (.aload_n 0, 1) := by decide +kernel
theorem dX4_init_5 : decode cX4_init 5 = .ok (.aload_n 1, 1) := by decide +kernel
theorem dX4_init_6 : decode cX4_init 6 = .ok (.putfield 9, 3) := by decide +kernel
theorem dX4_init_9 : decode cX4_init 9 = .ok (.aload_n 0, 1) := by decide +kernel
theorem dX4_init_10 : decode cX4_init 10 = .ok (.aload_n 2, 1) := by decide +kernel
theorem dX4_init_11 : decode cX4_init 11 = .ok (.putfield 15, 3) := by decide +kernel
theorem dX4_init_14 : decode cX4_init 14 = .ok (.aload_n 0, 1) := by decide +kernel
theorem dX4_init_15 : decode cX4_init 15 = .ok (.iconst 4, 1) := by decide +kernel
theorem dX4_init_16 : decode cX4_init 16 = .ok (.newarray .int, 2) := by decide +kernel
theorem dX4_init_18 : decode cX4_init 18 = .ok (.dup, 1) := by decide +kernel
theorem dX4_init_19 : decode cX4_init 19 = .ok (.iconst 0, 1) := by decide +kernel
theorem dX4_init_20 : decode cX4_init 20 = .ok (.ldc 19, 2) := by decide +kernel
theorem dX4_init_22 : decode cX4_init 22 = .ok (.invokestatic 21, 3) := by decide +kernel
theorem dX4_init_25 : decode cX4_init 25 = .ok (.iastore, 1) := by decide +kernel
theorem dX4_init_26 : decode cX4_init 26 = .ok (.dup, 1) := by decide +kernel
theorem dX4_init_27 : decode cX4_init 27 = .ok (.iconst 1, 1) := by decide +kernel
theorem dX4_init_28 : decode cX4_init 28 = .ok (.ldc 25, 2) := by decide +kernel
theorem dX4_init_30 : decode cX4_init 30 = .ok (.invokestatic 21, 3) := by decide +kernel
theorem dX4_init_33 : decode cX4_init 33 = .ok (.iastore, 1) := by decide +kernel
theorem dX4_init_34 : decode cX4_init 34 = .ok (.dup, 1) := by decide +kernel
theorem dX4_init_35 : decode cX4_init 35 = .ok (.iconst 2, 1) := by decide +kernel
theorem dX4_init_36 : decode cX4_init 36 = .ok (.ldc 27, 2) := by decide +kernel
theorem dX4_init_38 : decode cX4_init 38 = .ok (.invokestatic 21, 3) := by decide +kernel
theorem dX4_init_41 : decode cX4_init 41 = .ok (.iastore, 1) := by decide +kernel
theorem dX4_init_42 : decode cX4_init 42 = .ok (.dup, 1) := by decide +kernel
theorem dX4_init_43 : decode cX4_init 43 = .ok (.iconst 3, 1) := by decide +kernel
theorem dX4_init_44 : decode cX4_init 44 = .ok (.ldc 29, 2) := by decide +kernel
theorem dX4_init_46 : decode cX4_init 46 = .ok (.invokestatic 21, 3) := by decide +kernel
theorem dX4_init_49 : decode cX4_init 49 = .ok (.iastore, 1) := by decide +kernel
theorem dX4_init_50 : decode cX4_init 50 = .ok (.putfield 31, 3) := by decide +kernel
theorem dX4_init_53 : decode cX4_init 53 = .ok (.aload_n 0, 1) := by decide +kernel
theorem dX4_init_54 : decode cX4_init 54 = .ok (.ldc 35, 2) := by decide +kernel
theorem dX4_init_56 : decode cX4_init 56 = .ok (.invokestatic 21, 3) := by decide +kernel
theorem dX4_init_59 : decode cX4_init 59 = .ok (.putfield 37, 3) := by decide +kernel
theorem dX4_init_62 : decode cX4_init 62 = .ok (.return_, 1) := by decide +kernel
set_option maxHeartbeats 4000000 in
set_option maxRecDepth 100000 in
theorem c_X4_init (l : Launch) (D : va_G) (g : Nat → ClassId) (sz : Nat) (ka kv : Nat → Nat) (ff : Nat → Nat → Int32) (rd : Nat) (tp : Nat) (d : Nat) (hff : FFs ff) : Met l yX4_init (.code yX4_init cX4_init 3 none :: wsL_law) ({ frames := 5, cells := 1, slots := 4, locals := 107 }) (va_Pc [.ref rd, .ref tp, .ref d] (fun U => U.heap.size = sz ∧ va_P D vwCl [(rd, .inr (4, [.null, .null, .null, .int 0, .int 0, .int 0, .int 0, .int 0, .int 0, .int 0]))] U.heap ∧ va_K D vwCl (TY g) U ∧ va_D (fun _ => True) [(rd, .inr (4, [.null, .null, .null, .int 0, .int 0, .int 0, .int 0, .int 0, .int 0, .int 0]))] ∧ ZI ka kv ff (va_A [(rd, .inr (4, [.null, .null, .null, .int 0, .int 0, .int 0, .int 0, .int 0, .int 0, .int 0]))] sz) U U.heap)) (va_Qv (fun (_ : Unit) => True) (fun _ t => ∃ rd_kindWords : Nat, ∃ ww : Int32, ∃ kwf : Nat → Int32, (KWs kwf) ∧ ((ww : Int32).toInt = 16819) ∧ va_P D vwCl [(wO4 rd tp d rd_kindWords ww 0 0 0 0 0 0), (wI g rd_kindWords 0 4 kwf)] t.heap ∧ va_D (va_A [(rd, .inr (4, [.null, .null, .null, .int 0, .int 0, .int 0, .int 0, .int 0, .int 0, .int 0]))] sz) [(wO4 rd tp d rd_kindWords ww 0 0 0 0 0 0), (wI g rd_kindWords 0 4 kwf)]) (va_A [(rd, .inr (4, [.null, .null, .null, .int 0, .int 0, .int 0, .int 0, .int 0, .int 0, .int 0]))] sz)) 1 4 (va_A [(rd, .inr (4, [.null, .null, .null, .int 0, .int 0, .int 0, .int 0, .int 0, .int 0, .int 0]))] sz) := by
  refine Met.ofW (cc := cX4_init) (maxL := 3) (ret := none) (by decide) rfl ?_
  intro p e s m args below meth c s₁ B hml hv
  obtain ⟨rfl, hsz, hP, hK, hD0, hZ⟩ := hv
  have hx := B.exec
  have hb := B.bytes
  have hr := B.returns
  have hts0 := atoms_spec (ws := (.code yX4_init cX4_init 3 none :: wsL_law)) B.pre
  have hts : ∀ w ∈ wsL_law, w.before _ s = true := fun w h => hts0 w (List.mem_cons_of_mem _ h)
  have hown : s.vm.findClass RX4 = some m.cls := findClass_of_methodNamed B.named
  have hlocks := B.notSynchronized
  have hin : meth.name = "<init>" := (name_of_methodNamed B.named B.method).1
  subst hsz
  have hD := hD0.self (sz := s.heap.size)
  generalize hAe : va_A [(rd, .inr (4, [.null, .null, .null, .int 0, .int 0, .int 0, .int 0, .int 0, .int 0, .int 0]))] s.heap.size = A at hD hZ ⊢
  have hA : ∀ q : Nat, s.heap.size ≤ q → A q := fun q h => by rw [← hAe]; exact Or.inr h
  have hS : va_S A s.heap s.heap [] := va_S.rf
  have hP : va_P D vwCl [(rd, .inr (4, [.null, .null, .null, .int 0, .int 0, .int 0, .int 0, .int 0, .int 0, .int 0]))] s.heap := hP
  have hl := lv_entry ([.ref rd, .ref tp, .ref d]) (n := 3) (Nat.le_of_ble_eq_true rfl)
  rw [lg_entry_eq]
  generalize (lg_sl ([.ref rd, .ref tp, .ref d]) ++ List.replicate (3 - (lg_sl ([.ref rd, .ref tp, .ref d])).length) Slot.unset).toArray = ls at hl ⊢
  have hl : lv_has ls 3 [(0, .ref rd), (1, .ref tp), (2, .ref d)] := hl
  refine lv_aload_n hx hb dX4_init_0 rfl (lv_at hl 0 rfl) ?_
  refine W.objInit hx hb hown (hts (Cond.methodLink RX4 3 objectInit) qw_937) (hts (Cond.instanceMethod objectInit) qw_911) (hts (Cond.code objectInit ⟨#[0xb1]⟩ 1 none) qw_912) rfl (by rw [hml]; exact hl.1) rfl dX4_init_1 (Nat.le_of_ble_eq_true rfl) (Nat.le_of_ble_eq_true rfl) ?_
  refine W.eq (g2 := F0 m 4 ls []) rfl ?_
  refine lv_aload_n hx hb dX4_init_4 rfl (lv_at hl 0 rfl) ?_
  refine lv_aload_n hx hb dX4_init_5 rfl (lv_at hl 1 rfl) ?_
  refine va_putF (D := D) (ci := 4) (v := .ref tp) (ty := .object "ChanceRings$Tape") (C := RX4) (T := TX4) (N := 10) hx hb hts inlX4 tyX4 tyX4_ok nmX4 hown hK hP hD hS 0 rfl rfl 0 (by decide) (hts (Cond.fieldLink RX4 9 "ChanceRings$Reader" "tape" "LChanceRings$Tape;") qw_387) (fun _ h9 => h9) rfl hin rfl (by decide +kernel) rfl rfl (Nat.le_of_ble_eq_true rfl) dX4_init_6 (fun H locs hP hD hS => ?_)
  have hP : va_P D vwCl [(rd, .inr (4, [.ref tp, .null, .null, .int 0, .int 0, .int 0, .int 0, .int 0, .int 0, .int 0]))] H := hP
  have hD : va_D A [(rd, .inr (4, [.ref tp, .null, .null, .int 0, .int 0, .int 0, .int 0, .int 0, .int 0, .int 0]))] := hD
  refine lv_aload_n hx hb dX4_init_9 rfl (lv_at hl 0 rfl) ?_
  refine lv_aload_n hx hb dX4_init_10 rfl (lv_at hl 2 rfl) ?_
  refine va_putF (D := D) (ci := 4) (v := .ref d) (ty := .object "ChanceRings$Net") (C := RX4) (T := TX4) (N := 10) hx hb hts inlX4 tyX4 tyX4_ok nmX4 hown hK hP hD hS 0 rfl rfl 1 (by decide) (hts (Cond.fieldLink RX4 15 "ChanceRings$Reader" "net" "LChanceRings$Net;") qw_408) (fun _ h9 => h9) rfl hin rfl (by decide +kernel) rfl rfl (Nat.le_of_ble_eq_true rfl) dX4_init_11 (fun H locs hP hD hS => ?_)
  have hP : va_P D vwCl [(rd, .inr (4, [.ref tp, .ref d, .null, .int 0, .int 0, .int 0, .int 0, .int 0, .int 0, .int 0]))] H := hP
  have hD : va_D A [(rd, .inr (4, [.ref tp, .ref d, .null, .int 0, .int 0, .int 0, .int 0, .int 0, .int 0, .int 0]))] := hD
  refine lv_aload_n hx hb dX4_init_14 rfl (lv_at hl 0 rfl) ?_
  refine lv_iconst (v := 4) hx hb dX4_init_15 (by decide) ?_
  refine va_newa (atype := .int) (ty := .int) (N' := 4) (a0 := (4, .inl (fun _ => 0))) hx hb (hts (Cond.arrayClass .int) qw_913) rfl hK hP hD hS hA (fun _ => rfl) (by decide) (by decide +kernel) (by decide) (Nat.le_of_ble_eq_true rfl) (Nat.le_of_ble_eq_true rfl) dX4_init_16 (fun q_117789 cA H hK9 hP hD hS => ?_)
  obtain rfl : cA = g 0 := tz_clsI hK hK9
  have hP : va_P D vwCl [(rd, .inr (4, [.ref tp, .ref d, .null, .int 0, .int 0, .int 0, .int 0, .int 0, .int 0, .int 0])), (wI g q_117789 0 4 (fun _ => 0))] H := hP
  have hD : va_D A [(rd, .inr (4, [.ref tp, .ref d, .null, .int 0, .int 0, .int 0, .int 0, .int 0, .int 0, .int 0])), (wI g q_117789 0 4 (fun _ => 0))] := hD
  refine W.widen (k := 1) (n := 4) (by decide) (by decide) ?_
  refine lv_dup hx hb dX4_init_18 rfl ?_
  refine lv_iconst (v := 0) hx hb dX4_init_19 (by decide) ?_
  refine va_ldcS hx hb hown hZ.2.2.2.2.2.2.2.2.2.2.1.1 dX4_init_20 ?_
  refine vp_callSi (va_Run.run (va_runSN (As := [.ref (ka 0)]) (rest := [.int 0, .ref q_117789, .ref q_117789, .ref rd]) ⟨hx, hb, hml, hown, hts⟩ (c_X11_pack_3 l (ka 0) (kv 0) (ff 0) A) ⟨va_cnB 1 hts (tz_gC qw_938) rfl rfl rfl hZ.2.2.2.2.1 (hts (Cond.initialized RX11) qw_730) (by decide +kernel) ⟨Nat.le_of_ble_eq_true rfl, Nat.le_of_ble_eq_true rfl⟩, (hts (Cond.static yX11_pack) qw_939), trivial⟩ ⟨tz_blJ, tz_preJ (hZ.2.2.2.2.2.2.2.2.2.2.1.2.kept hS.2.1)⟩ rfl rfl hl.1 rfl (lv_room (Nat.le_of_ble_eq_true rfl)) dX4_init_22 ⟨Nat.le_of_ble_eq_true rfl, Nat.le_of_ble_eq_true rfl⟩)) (fun r_117790 r_117790_w => ?_)
  refine va_iast hx hb hK hP hD hS 1 0 rfl rfl (tz_in (by decide +kernel)) dX4_init_25 (fun H locs hP hD hS => ?_)
  obtain ⟨f_117791, f_117791_e, hP, hD⟩ : ∃ FX : Nat → Int32, FX = upd (fun _ => 0) (0 : Int32).toNatClampNeg r_117790 ∧ va_P D vwCl [(rd, .inr (4, [.ref tp, .ref d, .null, .int 0, .int 0, .int 0, .int 0, .int 0, .int 0, .int 0])), (wI g q_117789 0 4 FX)] H ∧ va_D A [(rd, .inr (4, [.ref tp, .ref d, .null, .int 0, .int 0, .int 0, .int 0, .int 0, .int 0, .int 0])), (wI g q_117789 0 4 FX)] := ⟨_, rfl, hP, hD⟩
  have hP : va_P D vwCl [(rd, .inr (4, [.ref tp, .ref d, .null, .int 0, .int 0, .int 0, .int 0, .int 0, .int 0, .int 0])), (wI g q_117789 0 4 f_117791)] H := hP
  have hD : va_D A [(rd, .inr (4, [.ref tp, .ref d, .null, .int 0, .int 0, .int 0, .int 0, .int 0, .int 0, .int 0])), (wI g q_117789 0 4 f_117791)] := hD
  refine lv_dup hx hb dX4_init_26 rfl ?_
  refine lv_iconst (v := 1) hx hb dX4_init_27 (by decide) ?_
  refine va_ldcS hx hb hown hZ.2.2.2.2.2.2.2.2.2.2.2.1.1 dX4_init_28 ?_
  refine vp_callSi (va_Run.run (va_runSN (As := [.ref (ka 1)]) (rest := [.int 1, .ref q_117789, .ref q_117789, .ref rd]) ⟨hx, hb, hml, hown, hts⟩ (c_X11_pack_3 l (ka 1) (kv 1) (ff 1) A) ⟨va_cnB 1 hts (tz_gC qw_938) rfl rfl rfl hZ.2.2.2.2.1 (hts (Cond.initialized RX11) qw_730) (by decide +kernel) ⟨Nat.le_of_ble_eq_true rfl, Nat.le_of_ble_eq_true rfl⟩, (hts (Cond.static yX11_pack) qw_939), trivial⟩ ⟨tz_blJ, tz_preJ (hZ.2.2.2.2.2.2.2.2.2.2.2.1.2.kept hS.2.1)⟩ rfl rfl hl.1 rfl (lv_room (Nat.le_of_ble_eq_true rfl)) dX4_init_30 ⟨Nat.le_of_ble_eq_true rfl, Nat.le_of_ble_eq_true rfl⟩)) (fun r_117792 r_117792_w => ?_)
  refine va_iast hx hb hK hP hD hS 1 0 rfl rfl (tz_in (by decide +kernel)) dX4_init_33 (fun H locs hP hD hS => ?_)
  obtain ⟨f_117793, f_117793_e, hP, hD⟩ : ∃ FX : Nat → Int32, FX = upd f_117791 (1 : Int32).toNatClampNeg r_117792 ∧ va_P D vwCl [(rd, .inr (4, [.ref tp, .ref d, .null, .int 0, .int 0, .int 0, .int 0, .int 0, .int 0, .int 0])), (wI g q_117789 0 4 FX)] H ∧ va_D A [(rd, .inr (4, [.ref tp, .ref d, .null, .int 0, .int 0, .int 0, .int 0, .int 0, .int 0, .int 0])), (wI g q_117789 0 4 FX)] := ⟨_, rfl, hP, hD⟩
  have hP : va_P D vwCl [(rd, .inr (4, [.ref tp, .ref d, .null, .int 0, .int 0, .int 0, .int 0, .int 0, .int 0, .int 0])), (wI g q_117789 0 4 f_117793)] H := hP
  have hD : va_D A [(rd, .inr (4, [.ref tp, .ref d, .null, .int 0, .int 0, .int 0, .int 0, .int 0, .int 0, .int 0])), (wI g q_117789 0 4 f_117793)] := hD
  refine lv_dup hx hb dX4_init_34 rfl ?_
  refine lv_iconst (v := 2) hx hb dX4_init_35 (by decide) ?_
  refine va_ldcS hx hb hown hZ.2.2.2.2.2.2.2.2.2.2.2.2.1.1 dX4_init_36 ?_
  refine vp_callSi (va_Run.run (va_runSN (As := [.ref (ka 2)]) (rest := [.int 2, .ref q_117789, .ref q_117789, .ref rd]) ⟨hx, hb, hml, hown, hts⟩ (c_X11_pack_3 l (ka 2) (kv 2) (ff 2) A) ⟨va_cnB 1 hts (tz_gC qw_938) rfl rfl rfl hZ.2.2.2.2.1 (hts (Cond.initialized RX11) qw_730) (by decide +kernel) ⟨Nat.le_of_ble_eq_true rfl, Nat.le_of_ble_eq_true rfl⟩, (hts (Cond.static yX11_pack) qw_939), trivial⟩ ⟨tz_blJ, tz_preJ (hZ.2.2.2.2.2.2.2.2.2.2.2.2.1.2.kept hS.2.1)⟩ rfl rfl hl.1 rfl (lv_room (Nat.le_of_ble_eq_true rfl)) dX4_init_38 ⟨Nat.le_of_ble_eq_true rfl, Nat.le_of_ble_eq_true rfl⟩)) (fun r_117794 r_117794_w => ?_)
  refine va_iast hx hb hK hP hD hS 1 0 rfl rfl (tz_in (by decide +kernel)) dX4_init_41 (fun H locs hP hD hS => ?_)
  obtain ⟨f_117795, f_117795_e, hP, hD⟩ : ∃ FX : Nat → Int32, FX = upd f_117793 (2 : Int32).toNatClampNeg r_117794 ∧ va_P D vwCl [(rd, .inr (4, [.ref tp, .ref d, .null, .int 0, .int 0, .int 0, .int 0, .int 0, .int 0, .int 0])), (wI g q_117789 0 4 FX)] H ∧ va_D A [(rd, .inr (4, [.ref tp, .ref d, .null, .int 0, .int 0, .int 0, .int 0, .int 0, .int 0, .int 0])), (wI g q_117789 0 4 FX)] := ⟨_, rfl, hP, hD⟩
  have hP : va_P D vwCl [(rd, .inr (4, [.ref tp, .ref d, .null, .int 0, .int 0, .int 0, .int 0, .int 0, .int 0, .int 0])), (wI g q_117789 0 4 f_117795)] H := hP
  have hD : va_D A [(rd, .inr (4, [.ref tp, .ref d, .null, .int 0, .int 0, .int 0, .int 0, .int 0, .int 0, .int 0])), (wI g q_117789 0 4 f_117795)] := hD
  refine lv_dup hx hb dX4_init_42 rfl ?_
  refine lv_iconst (v := 3) hx hb dX4_init_43 (by decide) ?_
  refine va_ldcS hx hb hown hZ.2.2.2.2.2.2.2.2.2.2.2.2.2.1.1 dX4_init_44 ?_
  refine vp_callSi (va_Run.run (va_runSN (As := [.ref (ka 3)]) (rest := [.int 3, .ref q_117789, .ref q_117789, .ref rd]) ⟨hx, hb, hml, hown, hts⟩ (c_X11_pack_6 l (ka 3) (kv 3) (ff 3) A) ⟨va_cnB 1 hts (tz_gC qw_938) rfl rfl rfl hZ.2.2.2.2.1 (hts (Cond.initialized RX11) qw_730) (by decide +kernel) ⟨Nat.le_of_ble_eq_true rfl, Nat.le_of_ble_eq_true rfl⟩, (hts (Cond.static yX11_pack) qw_939), trivial⟩ ⟨tz_blJ, tz_preJ (hZ.2.2.2.2.2.2.2.2.2.2.2.2.2.1.2.kept hS.2.1)⟩ rfl rfl hl.1 rfl (lv_room (Nat.le_of_ble_eq_true rfl)) dX4_init_46 ⟨Nat.le_of_ble_eq_true rfl, Nat.le_of_ble_eq_true rfl⟩)) (fun r_117796 r_117796_w => ?_)
  refine va_iast hx hb hK hP hD hS 1 0 rfl rfl (tz_in (by decide +kernel)) dX4_init_49 (fun H locs hP hD hS => ?_)
  obtain ⟨f_117797, f_117797_e, hP, hD⟩ : ∃ FX : Nat → Int32, FX = upd f_117795 (3 : Int32).toNatClampNeg r_117796 ∧ va_P D vwCl [(rd, .inr (4, [.ref tp, .ref d, .null, .int 0, .int 0, .int 0, .int 0, .int 0, .int 0, .int 0])), (wI g q_117789 0 4 FX)] H ∧ va_D A [(rd, .inr (4, [.ref tp, .ref d, .null, .int 0, .int 0, .int 0, .int 0, .int 0, .int 0, .int 0])), (wI g q_117789 0 4 FX)] := ⟨_, rfl, hP, hD⟩
  have hP : va_P D vwCl [(rd, .inr (4, [.ref tp, .ref d, .null, .int 0, .int 0, .int 0, .int 0, .int 0, .int 0, .int 0])), (wI g q_117789 0 4 f_117797)] H := hP
  have hD : va_D A [(rd, .inr (4, [.ref tp, .ref d, .null, .int 0, .int 0, .int 0, .int 0, .int 0, .int 0, .int 0])), (wI g q_117789 0 4 f_117797)] := hD
  refine va_putF (D := D) (ci := 4) (v := .ref q_117789) (ty := .array .int) (C := RX4) (T := TX4) (N := 10) hx hb hts inlX4 tyX4 tyX4_ok nmX4 hown hK hP hD hS 0 rfl rfl 2 (by decide) (hts (Cond.fieldLink RX4 31 "ChanceRings$Reader" "kindWords" "[I") qw_402) (fun _ h9 => h9) rfl hin rfl (by decide +kernel) rfl rfl (Nat.le_of_ble_eq_true rfl) dX4_init_50 (fun H locs hP hD hS => ?_)
  have hP : va_P D vwCl [(wO4 rd tp d q_117789 0 0 0 0 0 0 0), (wI g q_117789 0 4 f_117797)] H := hP
  have hD : va_D A [(wO4 rd tp d q_117789 0 0 0 0 0 0 0), (wI g q_117789 0 4 f_117797)] := hD
  refine lv_aload_n hx hb dX4_init_53 rfl (lv_at hl 0 rfl) ?_
  refine va_ldcS hx hb hown hZ.2.2.2.2.2.2.2.2.2.2.2.2.2.2.1 dX4_init_54 ?_
  refine vp_callSi (va_Run.run (va_runSN (As := [.ref (ka 4)]) (rest := [.ref rd]) ⟨hx, hb, hml, hown, hts⟩ (c_X11_pack_3 l (ka 4) (kv 4) (ff 4) A) ⟨va_cnB 1 hts (tz_gC qw_938) rfl rfl rfl hZ.2.2.2.2.1 (hts (Cond.initialized RX11) qw_730) (by decide +kernel) ⟨Nat.le_of_ble_eq_true rfl, Nat.le_of_ble_eq_true rfl⟩, (hts (Cond.static yX11_pack) qw_939), trivial⟩ ⟨tz_blJ, tz_preJ (hZ.2.2.2.2.2.2.2.2.2.2.2.2.2.2.2.kept hS.2.1)⟩ rfl rfl hl.1 rfl (lv_room (Nat.le_of_ble_eq_true rfl)) dX4_init_56 ⟨Nat.le_of_ble_eq_true rfl, Nat.le_of_ble_eq_true rfl⟩)) (fun r_117798 r_117798_w => ?_)
  refine va_putF (D := D) (ci := 4) (v := .int r_117798) (ty := .int) (C := RX4) (T := TX4) (N := 10) hx hb hts inlX4 tyX4 tyX4_ok nmX4 hown hK hP hD hS 0 rfl rfl 3 (by decide) (hts (Cond.fieldLink RX4 37 "ChanceRings$Reader" "wayWord" "I") qw_403) (fun _ h9 => h9) rfl hin rfl (by decide +kernel) rfl rfl (Nat.le_of_ble_eq_true rfl) dX4_init_59 (fun H locs hP hD hS => ?_)
  have hP : va_P D vwCl [(wO4 rd tp d q_117789 r_117798 0 0 0 0 0 0), (wI g q_117789 0 4 f_117797)] H := hP
  have hD : va_D A [(wO4 rd tp d q_117789 r_117798 0 0 0 0 0 0), (wI g q_117789 0 4 f_117797)] := hD
  have hP9 := hP.sub (ws' := [(wO4 rd tp d q_117789 r_117798 0 0 0 0 0 0), (wI g q_117789 0 4 f_117797)]) [0, 1] rfl
  have hD9 := hD.sub (ws' := [(wO4 rd tp d q_117789 r_117798 0 0 0 0 0 0), (wI g q_117789 0 4 f_117797)]) [0, 1] (by decide) rfl
  exact W.vret hx hb hr (fun t ht hW => ⟨⟨(), rfl, trivial, q_117789, r_117798, f_117797, (kws_of hff f_117791_e f_117793_e f_117795_e f_117797_e r_117790_w r_117792_w r_117794_w r_117796_w), (ww_of hff r_117798_w), by rw [ht]; exact hP9, hD9⟩, hS.F ht⟩) hS.2.2 dX4_init_62
