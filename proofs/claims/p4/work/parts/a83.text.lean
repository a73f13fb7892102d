theorem qw_878 : Cond.fieldLink RJ0 38 "java/lang/String" "COMPACT_STRINGS" "Z" ∈ wsL_law := tseg_1 (by decide +kernel) (List.mem_of_getElem? (i := 128) (by decide +kernel))
theorem qw_879 : Cond.fieldLink RJ0 15 "java/lang/String" "coder" "B" ∈ wsL_law := tseg_7 (by decide +kernel) (List.mem_of_getElem? (i := 186) (by decide +kernel))
theorem qw_880 : Cond.fieldLink RJ0 9 "java/lang/String" "value" "[B" ∈ wsL_law := tseg_7 (by decide +kernel) (List.mem_of_getElem? (i := 185) (by decide +kernel))
theorem qw_881 : Cond.methodLink RJ0 335 yJ0_coder_7d493 ∈ wsL_law := tseg_1 (by decide +kernel) (List.mem_of_getElem? (i := 124) (by decide +kernel))
theorem qw_882 : Cond.instanceMethod yJ0_coder_7d493 ∈ wsL_law := tseg_1 (by decide +kernel) (List.mem_of_getElem? (i := 125) (by decide +kernel))
theorem qw_883 : Cond.selects RJ0 yJ0_coder_7d493 yJ0_coder_7d493 ∈ wsL_law := tseg_1 (by decide +kernel) (List.mem_of_getElem? (i := 126) (by decide +kernel))
theorem qw_884 : Cond.initialized RJ0 ∈ wsL_law := tseg_1 (by decide +kernel) (List.mem_of_getElem? (i := 5) (by decide +kernel))
theorem qw_885 : Cond.code yJ0_coder_7d493 cJ0_coder_7d493 1 (some .byte) ∈ wsL_law := tseg_1 (by decide +kernel) (List.mem_of_getElem? (i := 127) (by decide +kernel))
theorem qw_886 : Cond.fieldLink RJ0 1053 "jdk/internal/util/Preconditions" "SIOOBE_FORMATTER" "Ljava/util/function/BiFunction;" ∈ wsL_law := tseg_1 (by decide +kernel) (List.mem_of_getElem? (i := 144) (by decide +kernel))
theorem qw_887 : Cond.methodLink RJ0 1059 yJ3_checkIndex_8e157 ∈ wsL_law := tseg_1 (by decide +kernel) (List.mem_of_getElem? (i := 146) (by decide +kernel))
theorem qw_888 : Cond.static yJ3_checkIndex_8e157 ∈ wsL_law := tseg_1 (by decide +kernel) (List.mem_of_getElem? (i := 147) (by decide +kernel))
theorem qw_889 : Cond.initialized RJ3 ∈ wsL_law := tseg_1 (by decide +kernel) (List.mem_of_getElem? (i := 7) (by decide +kernel))
theorem qw_890 : Cond.code yJ3_checkIndex_8e157 cJ3_checkIndex_8e157 3 (some .int) ∈ wsL_law := tseg_1 (by decide +kernel) (List.mem_of_getElem? (i := 148) (by decide +kernel))
theorem qw_891 : Cond.methodLink RJ1 9 yJ0_checkIndex_df160 ∈ wsL_law := tseg_1 (by decide +kernel) (List.mem_of_getElem? (i := 141) (by decide +kernel))
theorem qw_892 : Cond.static yJ0_checkIndex_df160 ∈ wsL_law := tseg_1 (by decide +kernel) (List.mem_of_getElem? (i := 142) (by decide +kernel))
theorem qw_893 : Cond.code yJ0_checkIndex_df160 cJ0_checkIndex_df160 2 none ∈ wsL_law := tseg_1 (by decide +kernel) (List.mem_of_getElem? (i := 143) (by decide +kernel))
theorem qw_894 : Cond.methodLink RJ0 492 yJ0_isLatin1_aae02 ∈ wsL_law := tseg_1 (by decide +kernel) (List.mem_of_getElem? (i := 134) (by decide +kernel))
theorem qw_895 : Cond.instanceMethod yJ0_isLatin1_aae02 ∈ wsL_law := tseg_1 (by decide +kernel) (List.mem_of_getElem? (i := 135) (by decide +kernel))
theorem qw_896 : Cond.selects RJ0 yJ0_isLatin1_aae02 yJ0_isLatin1_aae02 ∈ wsL_law := tseg_1 (by decide +kernel) (List.mem_of_getElem? (i := 136) (by decide +kernel))
theorem qw_897 : Cond.code yJ0_isLatin1_aae02 cJ0_isLatin1_aae02 1 (some .boolean) ∈ wsL_law := tseg_1 (by decide +kernel) (List.mem_of_getElem? (i := 137) (by decide +kernel))
theorem qw_898 : Cond.methodLink RJ0 495 yJ1_charAt_3b067 ∈ wsL_law := tseg_1 (by decide +kernel) (List.mem_of_getElem? (i := 138) (by decide +kernel))
theorem qw_899 : Cond.static yJ1_charAt_3b067 ∈ wsL_law := tseg_1 (by decide +kernel) (List.mem_of_getElem? (i := 139) (by decide +kernel))
theorem qw_900 : Cond.initialized RJ1 ∈ wsL_law := tseg_1 (by decide +kernel) (List.mem_of_getElem? (i := 6) (by decide +kernel))
theorem qw_901 : Cond.code yJ1_charAt_3b067 cJ1_charAt_3b067 2 (some .char) ∈ wsL_law := tseg_1 (by decide +kernel) (List.mem_of_getElem? (i := 140) (by decide +kernel))
theorem qw_902 : Cond.methodLink RX11 318 yJ0_length_8abf5 ∈ wsL_law := tseg_1 (by decide +kernel) (List.mem_of_getElem? (i := 120) (by decide +kernel))
theorem qw_903 : Cond.instanceMethod yJ0_length_8abf5 ∈ wsL_law := tseg_1 (by decide +kernel) (List.mem_of_getElem? (i := 121) (by decide +kernel))
theorem qw_904 : Cond.selects RJ0 yJ0_length_8abf5 yJ0_length_8abf5 ∈ wsL_law := tseg_1 (by decide +kernel) (List.mem_of_getElem? (i := 122) (by decide +kernel))
theorem qw_905 : Cond.code yJ0_length_8abf5 cJ0_length_8abf5 1 (some .int) ∈ wsL_law := tseg_1 (by decide +kernel) (List.mem_of_getElem? (i := 123) (by decide +kernel))
theorem qw_906 : Cond.methodLink RX11 322 yJ0_charAt_5068e ∈ wsL_law := tseg_1 (by decide +kernel) (List.mem_of_getElem? (i := 130) (by decide +kernel))
theorem qw_907 : Cond.instanceMethod yJ0_charAt_5068e ∈ wsL_law := tseg_1 (by decide +kernel) (List.mem_of_getElem? (i := 131) (by decide +kernel))
theorem qw_908 : Cond.selects RJ0 yJ0_charAt_5068e yJ0_charAt_5068e ∈ wsL_law := tseg_1 (by decide +kernel) (List.mem_of_getElem? (i := 132) (by decide +kernel))
theorem qw_909 : Cond.code yJ0_charAt_5068e cJ0_charAt_5068e 2 (some .char) ∈ wsL_law := tseg_1 (by decide +kernel) (List.mem_of_getElem? (i := 133) (by decide +kernel))
theorem dJ0_charAt_5068e_0 : decode cJ0_charAt_5068e 0 = .ok (.aload_n 0, 1) := by decide +kernel
theorem dJ0_charAt_5068e_1 : decode cJ0_charAt_5068e 1 = .ok (.invokevirtual 492, 3) := by decide +kernel
theorem dJ0_charAt_5068e_4 : decode cJ0_charAt_5068e 4 = .ok (.ifCond .eq 12, 3) := by decide +kernel
theorem dJ0_charAt_5068e_7 : decode cJ0_charAt_5068e 7 = .ok (.aload_n 0, 1) := by decide +kernel
theorem dJ0_charAt_5068e_8 : decode cJ0_charAt_5068e 8 = .ok (.getfield 9, 3) := by decide +kernel
theorem dJ0_charAt_5068e_11 : decode cJ0_charAt_5068e 11 = .ok (.iload_n 1, 1) := by decide +kernel
theorem dJ0_charAt_5068e_12 : decode cJ0_charAt_5068e 12 = .ok (.invokestatic 495, 3) := by decide +kernel
theorem dJ0_charAt_5068e_15 : decode cJ0_charAt_5068e 15 = .ok (.ireturn, 1) := by decide +kernel
theorem dJ0_checkIndex_df160_0 : decode cJ0_checkIndex_df160 0 = .ok (.iload_n 0, 1) := by decide +kernel
theorem dJ0_checkIndex_df160_1 : decode cJ0_checkIndex_df160 1 = .ok (.iload_n 1, 1) := by decide +kernel
theorem dJ0_checkIndex_df160_2 : decode cJ0_checkIndex_df160 2 = .ok (.getstatic 1053, 3) := by decide +kernel
theorem dJ0_checkIndex_df160_5 : decode cJ0_checkIndex_df160 5 = .ok (.invokestatic 1059, 3) := by decide +kernel
theorem dJ0_checkIndex_df160_8 : decode cJ0_checkIndex_df160 8 = .ok (.pop, 1) := by decide +kernel
theorem dJ0_checkIndex_df160_9 : decode cJ0_checkIndex_df160 9 = .ok (.return_, 1) := by decide +kernel
theorem dJ0_coder_7d493_0 : decode cJ0_coder_7d493 0 = .ok (.getstatic 38, 3) := by decide +kernel
theorem dJ0_coder_7d493_3 : decode cJ0_coder_7d493 3 = .ok (.ifCond .eq 10, 3) := by decide +kernel
theorem dJ0_coder_7d493_6 : decode cJ0_coder_7d493 6 = .ok (.aload_n 0, 1) := by decide +kernel
theorem dJ0_coder_7d493_7 : decode cJ0_coder_7d493 7 = .ok (.getfield 15, 3) := by decide +kernel
theorem dJ0_coder_7d493_10 : decode cJ0_coder_7d493 10 = .ok (.goto 4, 3) := by decide +kernel
theorem dJ0_coder_7d493_14 : decode cJ0_coder_7d493 14 = .ok (.ireturn, 1) := by decide +kernel
theorem dJ0_isLatin1_aae02_0 : decode cJ0_isLatin1_aae02 0 = .ok (.getstatic 38, 3) := by decide +kernel
theorem dJ0_isLatin1_aae02_3 : decode cJ0_isLatin1_aae02 3 = .ok (.ifCond .eq 14, 3) := by decide +kernel
theorem dJ0_isLatin1_aae02_6 : decode cJ0_isLatin1_aae02 6 = .ok (.aload_n 0, 1) := by decide +kernel
theorem dJ0_isLatin1_aae02_7 : decode cJ0_isLatin1_aae02 7 = .ok (.getfield 15, 3) := by decide +kernel
theorem dJ0_isLatin1_aae02_10 : decode cJ0_isLatin1_aae02 10 = .ok (.ifCond .ne 7, 3) := by decide +kernel
theorem dJ0_isLatin1_aae02_13 : decode cJ0_isLatin1_aae02 13 = .ok (.iconst 1, 1) := by decide +kernel
theorem dJ0_isLatin1_aae02_14 : decode cJ0_isLatin1_aae02 14 = .ok (.goto 4, 3) := by decide +kernel
theorem dJ0_isLatin1_aae02_18 : decode cJ0_isLatin1_aae02 18 = .ok (.ireturn, 1) := by decide +kernel
theorem dJ0_length_8abf5_0 : decode cJ0_length_8abf5 0 = .ok (.aload_n 0, 1) := by decide +kernel
theorem dJ0_length_8abf5_1 : decode cJ0_length_8abf5 1 = .ok (.getfield 9, 3) := by decide +kernel
theorem dJ0_length_8abf5_4 : decode cJ0_length_8abf5 4 = .ok (.arraylength, 1) := by decide +kernel
theorem dJ0_length_8abf5_5 : decode cJ0_length_8abf5 5 = .ok (.aload_n 0, 1) := by decide +kernel
theorem dJ0_length_8abf5_6 : decode cJ0_length_8abf5 6 = .ok (.invokevirtual 335, 3) := by decide +kernel
theorem dJ0_length_8abf5_9 : decode cJ0_length_8abf5 9 = .ok (.ishr, 1) := by decide +kernel
theorem dJ0_length_8abf5_10 : decode cJ0_length_8abf5 10 = .ok (.ireturn, 1) := by decide +kernel
theorem dJ1_charAt_3b067_0 : decode cJ1_charAt_3b067 0 = .ok (.iload_n 1, 1) := by decide +kernel
theorem dJ1_charAt_3b067_1 : decode cJ1_charAt_3b067 1 = .ok (.aload_n 0, 1) := by decide +kernel
theorem dJ1_charAt_3b067_2 : decode cJ1_charAt_3b067 2 = .ok (.arraylength, 1) := by decide +kernel
theorem dJ1_charAt_3b067_3 : decode cJ1_charAt_3b067 3 = .ok (.invokestatic 9, 3) := by decide +kernel
theorem dJ1_charAt_3b067_6 : decode cJ1_charAt_3b067 6 = .ok (.aload_n 0, 1) := by decide +kernel
theorem dJ1_charAt_3b067_7 : decode cJ1_charAt_3b067 7 = .ok (.iload_n 1, 1) := by decide +kernel
theorem dJ1_charAt_3b067_8 : decode cJ1_charAt_3b067 8 = .ok (.baload, 1) := by decide +kernel
theorem dJ1_charAt_3b067_9 : decode cJ1_charAt_3b067 9 = .ok (.sipush 255, 3) := by decide +kernel
theorem dJ1_charAt_3b067_12 : decode cJ1_charAt_3b067 12 = .ok (.iand, 1) := by decide +kernel
theorem dJ1_charAt_3b067_13 : decode cJ1_charAt_3b067 13 = .ok (.i2c, 1) := by decide +kernel
theorem dJ1_charAt_3b067_14 : decode cJ1_charAt_3b067 14 = .ok (.ireturn, 1) := by decide +kernel
theorem dJ3_checkIndex_8e157_0 : decode cJ3_checkIndex_8e157 0 = .ok (.iload_n 0, 1) := by decide +kernel
theorem dJ3_checkIndex_8e157_1 : decode cJ3_checkIndex_8e157 1 = .ok (.ifCond .lt 8, 3) := by decide +kernel
theorem dJ3_checkIndex_8e157_4 : decode cJ3_checkIndex_8e157 4 = .ok (.iload_n 0, 1) := by decide +kernel
theorem dJ3_checkIndex_8e157_5 : decode cJ3_checkIndex_8e157 5 = .ok (.iload_n 1, 1) := by decide +kernel
theorem dJ3_checkIndex_8e157_6 : decode cJ3_checkIndex_8e157 6 = .ok (.if_icmp .lt 10, 3) := by decide +kernel
theorem dJ3_checkIndex_8e157_16 : decode cJ3_checkIndex_8e157 16 = .ok (.iload_n 0, 1) := by decide +kernel
theorem dJ3_checkIndex_8e157_17 : decode cJ3_checkIndex_8e157 17 = .ok (.ireturn, 1) := by decide +kernel
theorem dX11_pack_0 : decode cX11_pack 0 = .ok (.iconst 0, 1) := by decide +kernel
theorem dX11_pack_1 : decode cX11_pack 1 = .ok (.istore_n 1, 1) := by decide +kernel
theorem dX11_pack_2 : decode cX11_pack 2 = .ok (.iconst 0, 1) := by decide +kernel
theorem dX11_pack_3 : decode cX11_pack 3 = .ok (.istore_n 2, 1) := by decide +kernel
theorem dX11_pack_4 : decode cX11_pack 4 = .ok (.iload_n 2, 1) := by decide +kernel
theorem dX11_pack_5 : decode cX11_pack 5 = .ok (.aload_n 0, 1) := by decide +kernel
theorem dX11_pack_6 : decode cX11_pack 6 = .ok (.invokevirtual 318, 3) := by decide +kernel
theorem dX11_pack_9 : decode cX11_pack 9 = .ok (.if_icmp .ge 31, 3) := by decide +kernel
theorem dX11_pack_12 : decode cX11_pack 12 = .ok (.iload_n 2, 1) := by decide +kernel
theorem dX11_pack_13 : decode cX11_pack 13 = .ok (.bipush 6, 2) := by decide +kernel
theorem dX11_pack_15 : decode cX11_pack 15 = .ok (.if_icmp .ge 25, 3) := by decide +kernel
theorem dX11_pack_18 : decode cX11_pack 18 = .ok (.iload_n 1, 1) := by decide +kernel
theorem dX11_pack_19 : decode cX11_pack 19 = .ok (.bipush 27, 2) := by decide +kernel
theorem dX11_pack_21 : decode cX11_pack 21 = .ok (.imul, 1) := by decide +kernel
theorem dX11_pack_22 : decode cX11_pack 22 = .ok (.aload_n 0, 1) := by decide +kernel
theorem dX11_pack_23 : decode cX11_pack 23 = .ok (.iload_n 2, 1) := by decide +kernel
theorem dX11_pack_24 : decode cX11_pack 24 = .ok (.invokevirtual 322, 3) := by decide +kernel
theorem dX11_pack_27 : decode cX11_pack 27 = .ok (.bipush 97, 2) := by decide +kernel
theorem dX11_pack_29 : decode cX11_pack 29 = .ok (.isub, 1) := by decide +kernel
theorem dX11_pack_30 : decode cX11_pack 30 = .ok (.iconst 1, 1) := by decide +kernel
theorem dX11_pack_31 : decode cX11_pack 31 = .ok (.iadd, 1) := by decide +kernel
theorem dX11_pack_32 : decode cX11_pack 32 = .ok (.iadd, 1) := by decide +kernel
theorem dX11_pack_33 : decode cX11_pack 33 = .ok (.istore_n 1, 1) := by decide +kernel
theorem dX11_pack_34 : decode cX11_pack 34 = .ok (.iinc 2 1, 3) := by decide +kernel
theorem dX11_pack_37 : decode cX11_pack 37 = .ok (.goto (-33), 3) := by decide +kernel
theorem dX11_pack_40 : decode cX11_pack 40 = .ok (.iload_n 1, 1) := by decide +kernel
theorem dX11_pack_41 : decode cX11_pack 41 = .ok (.ireturn, 1) := by decide +kernel
/-- a constant text: its object, its bytes, the statics that its methods read; nothing of it is written -/
def tStr (sa sv N : Nat) (f : Nat → Int32) (A : Nat → Prop) (U : State) (H : Heap) : Prop := va_Z "java/lang/String" "COMPACT_STRINGS" "Z" (.int 1) A U H ∧ va_Zq "jdk/internal/util/Preconditions" "SIOOBE_FORMATTER" "Ljava/util/function/BiFunction;" A U H ∧ va_O "java/lang/String" sa A U H ∧ va_OF "java/lang/String" "coder" "B" (.int 0) sa A U H ∧ va_OF "java/lang/String" "value" "[B" (.ref sv) sa A U H ∧ va_T .byte sv N (fun j => .int (f j)) A U H
theorem tStr.moved {sa sv N : Nat} {f : Nat → Int32} {A : Nat → Prop} {u U : State} {H : Heap} (hvm : u.vm.Alike U.vm) (h : tStr sa sv N f A u H) : tStr sa sv N f A U H :=
  ⟨va_Z.moved hvm h.1, va_Zq.moved hvm h.2.1, va_O.moved hvm h.2.2.1, va_OF.moved hvm h.2.2.2.1, va_OF.moved hvm h.2.2.2.2.1, va_T.moved hvm h.2.2.2.2.2⟩
theorem tStr.kept {sa sv N : Nat} {f : Nat → Int32} {A : Nat → Prop} {U : State} {H H1 : Heap} (h : tStr sa sv N f A U H) (hq : ∀ a : Nat, a < H.size → ¬ A a → H1[a]? = H[a]?) : tStr sa sv N f A U H1 :=
  ⟨h.1.kept hq, h.2.1.kept hq, h.2.2.1.kept hq, h.2.2.2.1.kept hq, h.2.2.2.2.1.kept hq, h.2.2.2.2.2.kept hq⟩
theorem tStr.narrow {sa sv N : Nat} {f : Nat → Int32} {A B : Nat → Prop} {U : State} {H : Heap} (h : tStr sa sv N f A U H) (hq : ∀ q, B q → A q) : tStr sa sv N f B U H :=
  ⟨h.1.narrow hq, h.2.1.narrow hq, h.2.2.1.narrow hq, h.2.2.2.1.narrow hq, h.2.2.2.2.1.narrow hq, h.2.2.2.2.2.narrow hq⟩
theorem tStr.recv {sa sv N : Nat} {f : Nat → Int32} {A : Nat → Prop} {U : State} {H : Heap} (h : tStr sa sv N f A U H) : ∃ cell : Cell, H[sa]? = some cell ∧ cell.vm.isStatics = false ∧ U.vm.findClass RJ0 = some cell.cls := by
  obtain ⟨cell, a1, a2, a3, -⟩ := h.2.2.1
  exact ⟨cell, a1, a2, a3⟩
theorem tz_blJ {sa sv N : Nat} {f : Nat → Int32} {A : Nat → Prop} {av : List Value} : FrameBlind (va_Pc av (fun U => tStr sa sv N f A U U.heap)) := fun a U g mk q => by
  obtain ⟨q0, qT⟩ := q
  exact ⟨q0, tStr.moved (u := U) (U := U.calling g mk a) (Vm.Alike.refl U.vm) qT⟩
theorem tz_preJ {sa sv N : Nat} {f : Nat → Int32} {A : Nat → Prop} {s : State} {H : Heap} {av : List Value} (h : tStr sa sv N f A s H) : ∀ U : State, U.heap = H → s.WarmedH U.vm → va_Pc av (fun U => tStr sa sv N f A U U.heap) av.toArray U := fun U hU hW => ⟨rfl, by show tStr sa sv N f A U U.heap; rw [hU]; exact h.moved hW.alike⟩
theorem tz_bl0 {av : List Value} : FrameBlind (va_Pc av (fun _ => True)) := fun a U g mk q => q
theorem tz_pre0 {s : State} {H : Heap} {av : List Value} : ∀ U : State, U.heap = H → s.WarmedH U.vm → va_Pc av (fun _ => True) av.toArray U := fun U _ _ => ⟨rfl, trivial⟩
set_option maxHeartbeats 4000000 in
set_option maxRecDepth 100000 in
theorem c_J0_coder (l : Launch) (sa sv N : Nat) (f : Nat → Int32) (A : Nat → Prop) : Met l yJ0_coder_7d493 (.code yJ0_coder_7d493 cJ0_coder_7d493 1 (some .byte) :: wsL_law) ({ frames := 0, cells := 0, slots := 0, locals := 0 }) (va_Pc [.ref sa] (fun U => tStr sa sv N f A U U.heap)) (vp_Si (fun r => r = 0)) 0 0 (fun _ => False) := by
  refine Met.ofW (cc := cJ0_coder_7d493) (maxL := 1) (ret := (some .byte)) (by decide) rfl ?_
  intro p e s m args below meth c s₁ B hml hv
  obtain ⟨rfl, hT⟩ := hv
  have hx := B.exec
  have hb := B.bytes
  have hr := B.returns
  have hts0 := atoms_spec (ws := (.code yJ0_coder_7d493 cJ0_coder_7d493 1 (some .byte) :: wsL_law)) B.pre
  have hts : ∀ w ∈ wsL_law, w.before _ s = true := fun w h => hts0 w (List.mem_cons_of_mem _ h)
  have hown : s.vm.findClass RJ0 = some m.cls := findClass_of_methodNamed B.named
  have hlocks := B.notSynchronized
  have hl := lv_entry ([.ref sa]) (n := 1) (Nat.le_of_ble_eq_true rfl)
  rw [lg_entry_eq]
  generalize (lg_sl ([.ref sa]) ++ List.replicate (1 - (lg_sl ([.ref sa])).length) Slot.unset).toArray = ls at hl ⊢
  have hl : lv_has ls 1 [(0, .ref sa)] := hl
  refine va_gets hx hb hT.1 (va_S.rf (A := A)) hown (hts (Cond.fieldLink RJ0 38 "java/lang/String" "COMPACT_STRINGS" "Z") qw_878) (fun _ h9 => h9) dJ0_coder_7d493_0 ?_
  refine lv_if_eq (tgt := 13) hx hb dJ0_coder_7d493_3 (by decide) (fun h9 => absurd h9 (by decide)) (fun _ => ?_)
  refine lv_aload_n hx hb dJ0_coder_7d493_6 rfl (lv_at hl 0 rfl) ?_
  refine vk_getf hx hb hT.2.2.2.1 (va_S.rf (A := A)) hown (hts (Cond.fieldLink RJ0 15 "java/lang/String" "coder" "B") qw_879) (fun _ h9 => h9) dJ0_coder_7d493_7 ?_
  refine lv_goto (tgt := 14) hx hb dJ0_coder_7d493_10 (by decide) ?_
  exact W.zret (v := 0) hx hb hr (by decide) (fun t ht hW => ⟨_, rfl, rfl, ht⟩) (fun _ h => nomatch h) dJ0_coder_7d493_14
set_option maxHeartbeats 4000000 in
set_option maxRecDepth 100000 in
theorem c_J0_isLatin1 (l : Launch) (sa sv N : Nat) (f : Nat → Int32) (A : Nat → Prop) : Met l yJ0_isLatin1_aae02 (.code yJ0_isLatin1_aae02 cJ0_isLatin1_aae02 1 (some .boolean) :: wsL_law) ({ frames := 0, cells := 0, slots := 0, locals := 0 }) (va_Pc [.ref sa] (fun U => tStr sa sv N f A U U.heap)) (vp_Si (fun r => r = 1)) 0 0 (fun _ => False) := by
  refine Met.ofW (cc := cJ0_isLatin1_aae02) (maxL := 1) (ret := (some .boolean)) (by decide) rfl ?_
  intro p e s m args below meth c s₁ B hml hv
  obtain ⟨rfl, hT⟩ := hv
  have hx := B.exec
  have hb := B.bytes
  have hr := B.returns
  have hts0 := atoms_spec (ws := (.code yJ0_isLatin1_aae02 cJ0_isLatin1_aae02 1 (some .boolean) :: wsL_law)) B.pre
  have hts : ∀ w ∈ wsL_law, w.before _ s = true := fun w h => hts0 w (List.mem_cons_of_mem _ h)
  have hown : s.vm.findClass RJ0 = some m.cls := findClass_of_methodNamed B.named
  have hlocks := B.notSynchronized
  have hl := lv_entry ([.ref sa]) (n := 1) (Nat.le_of_ble_eq_true rfl)
  rw [lg_entry_eq]
  generalize (lg_sl ([.ref sa]) ++ List.replicate (1 - (lg_sl ([.ref sa])).length) Slot.unset).toArray = ls at hl ⊢
  have hl : lv_has ls 1 [(0, .ref sa)] := hl
  refine va_gets hx hb hT.1 (va_S.rf (A := A)) hown (hts (Cond.fieldLink RJ0 38 "java/lang/String" "COMPACT_STRINGS" "Z") qw_878) (fun _ h9 => h9) dJ0_isLatin1_aae02_0 ?_
  refine lv_if_eq (tgt := 17) hx hb dJ0_isLatin1_aae02_3 (by decide) (fun h9 => absurd h9 (by decide)) (fun _ => ?_)
  refine lv_aload_n hx hb dJ0_isLatin1_aae02_6 rfl (lv_at hl 0 rfl) ?_
  refine vk_getf hx hb hT.2.2.2.1 (va_S.rf (A := A)) hown (hts (Cond.fieldLink RJ0 15 "java/lang/String" "coder" "B") qw_879) (fun _ h9 => h9) dJ0_isLatin1_aae02_7 ?_
  refine lv_if_ne (tgt := 17) hx hb dJ0_isLatin1_aae02_10 (by decide) (fun h9 => (h9 (by decide)).elim) (fun _ => ?_)
  refine lv_iconst (v := 1) hx hb dJ0_isLatin1_aae02_13 (by decide) ?_
  refine lv_goto (tgt := 18) hx hb dJ0_isLatin1_aae02_14 (by decide) ?_
  exact W.zret (v := 1) hx hb hr (by decide) (fun t ht hW => ⟨_, rfl, rfl, ht⟩) (fun _ h => nomatch h) dJ0_isLatin1_aae02_18
theorem tz_shr0 (x : Int32) : x >>> ((0 : Int32) &&& 31) = x := by
  have e : ((0 : Int32) &&& 31) = 0 := by decide
  rw [e]
  exact Int32.shiftRight_zero
set_option maxHeartbeats 4000000 in
set_option maxRecDepth 100000 in
theorem c_J0_length (l : Launch) (sa sv N : Nat) (f : Nat → Int32) (A : Nat → Prop) : Met l yJ0_length_8abf5 (.code yJ0_length_8abf5 cJ0_length_8abf5 1 (some .int) :: wsL_law) ({ frames := 1, cells := 0, slots := 0, locals := 20 }) (va_Pc [.ref sa] (fun U => tStr sa sv N f A U U.heap)) (vp_Si (fun r => r = nI N)) 0 0 (fun _ => False) := by
  refine Met.ofW (cc := cJ0_length_8abf5) (maxL := 1) (ret := (some .int)) (by decide) rfl ?_
  intro p e s m args below meth c s₁ B hml hv
  obtain ⟨rfl, hT⟩ := hv
  have hx := B.exec
  have hb := B.bytes
  have hr := B.returns
  have hts0 := atoms_spec (ws := (.code yJ0_length_8abf5 cJ0_length_8abf5 1 (some .int) :: wsL_law)) B.pre
  have hts : ∀ w ∈ wsL_law, w.before _ s = true := fun w h => hts0 w (List.mem_cons_of_mem _ h)
  have hown : s.vm.findClass RJ0 = some m.cls := findClass_of_methodNamed B.named
  have hlocks := B.notSynchronized
  have hl := lv_entry ([.ref sa]) (n := 1) (Nat.le_of_ble_eq_true rfl)
  rw [lg_entry_eq]
  generalize (lg_sl ([.ref sa]) ++ List.replicate (1 - (lg_sl ([.ref sa])).length) Slot.unset).toArray = ls at hl ⊢
  have hl : lv_has ls 1 [(0, .ref sa)] := hl
  refine lv_aload_n hx hb dJ0_length_8abf5_0 rfl (lv_at hl 0 rfl) ?_
  refine vk_getf hx hb hT.2.2.2.2.1 (va_S.rf (A := A)) hown (hts (Cond.fieldLink RJ0 9 "java/lang/String" "value" "[B") qw_880) (fun _ h9 => h9) dJ0_length_8abf5_1 ?_
  refine va_tlen hx hb hT.2.2.2.2.2 (va_S.rf (A := A)) (v := nI N) rfl dJ0_length_8abf5_4 ?_
  refine lv_aload_n hx hb dJ0_length_8abf5_5 rfl (lv_at hl 0 rfl) ?_
  refine vp_callSi (va_Run.run (va_runV (As := []) (rest := [.int (nI N)]) ⟨hx, hb, hml, hown, hts⟩ (c_J0_coder l sa sv N f A) (cwV 0 hts (tz_gV qw_881 qw_882 qw_883 qw_884 qw_885) rfl rfl rfl (by decide +kernel) ⟨Nat.le_of_ble_eq_true rfl, Nat.le_of_ble_eq_true rfl⟩) ⟨tz_blJ, hT.recv, tz_preJ hT⟩ rfl rfl hl.1 rfl (lv_room (Nat.le_of_ble_eq_true rfl)) dJ0_length_8abf5_6 ⟨Nat.le_of_ble_eq_true rfl, Nat.le_of_ble_eq_true rfl⟩)) (fun r_117714 hw => ?_)
  subst hw
  refine lv_ishr hx hb dJ0_length_8abf5_9 ?_
  refine tz_i (y := nI N) (tz_shr0 _) ?_
  exact W.iret (v := nI N) hx hb hr (fun t ht hW => ⟨_, rfl, rfl, ht⟩) (fun _ h => nomatch h) dJ0_length_8abf5_10
set_option maxHeartbeats 4000000 in
set_option maxRecDepth 100000 in
theorem c_J3_checkIndex_n (l : Launch) (j N : Nat) (hj : j < N) (hN : N < 2 ^ 31) : Met l yJ3_checkIndex_8e157 (.code yJ3_checkIndex_8e157 cJ3_checkIndex_8e157 3 (some .int) :: wsL_law) ({ frames := 0, cells := 0, slots := 0, locals := 0 }) (va_Pc [.int (nI j), .int (nI N), .null] (fun _ => True)) (vp_Si (fun r => r = nI j)) 0 0 (fun _ => False) := by
  refine Met.ofW (cc := cJ3_checkIndex_8e157) (maxL := 3) (ret := (some .int)) (by decide) rfl ?_
  intro p e s m args below meth c s₁ B hml hv
  obtain ⟨rfl, hT⟩ := hv
  have hx := B.exec
  have hb := B.bytes
  have hr := B.returns
  have hts0 := atoms_spec (ws := (.code yJ3_checkIndex_8e157 cJ3_checkIndex_8e157 3 (some .int) :: wsL_law)) B.pre
  have hts : ∀ w ∈ wsL_law, w.before _ s = true := fun w h => hts0 w (List.mem_cons_of_mem _ h)
  have hown : s.vm.findClass RJ3 = some m.cls := findClass_of_methodNamed B.named
  have hlocks := B.notSynchronized
  have hl := lv_entry ([.int (nI j), .int (nI N), .null]) (n := 3) (Nat.le_of_ble_eq_true rfl)
  rw [lg_entry_eq]
  generalize (lg_sl ([.int (nI j), .int (nI N), .null]) ++ List.replicate (3 - (lg_sl ([.int (nI j), .int (nI N), .null])).length) Slot.unset).toArray = ls at hl ⊢
  have hl : lv_has ls 3 [(0, .int (nI j)), (1, .int (nI N)), (2, .null)] := hl
  refine lv_iload_n hx hb dJ3_checkIndex_8e157_0 rfl (lv_at hl 0 rfl) ?_
  refine lv_if_lt (tgt := 9) hx hb dJ3_checkIndex_8e157_1 (by decide) (fun h9 => absurd h9 (nI_nlt (Nat.zero_le j) (by omega) : ¬ nI j < nI 0)) (fun _ => ?_)
  refine lv_iload_n hx hb dJ3_checkIndex_8e157_4 rfl (lv_at hl 0 rfl) ?_
  refine lv_iload_n hx hb dJ3_checkIndex_8e157_5 rfl (lv_at hl 1 rfl) ?_
  refine lv_icmp_lt (tgt := 16) hx hb dJ3_checkIndex_8e157_6 (by decide) (fun _ => ?_) (fun h9 => (h9 (nI_lt hj (by omega))).elim)
  refine lv_iload_n hx hb dJ3_checkIndex_8e157_16 rfl (lv_at hl 0 rfl) ?_
  exact W.iret (v := nI j) hx hb hr (fun t ht hW => ⟨_, rfl, rfl, ht⟩) (fun _ h => nomatch h) dJ3_checkIndex_8e157_17
set_option maxHeartbeats 4000000 in
set_option maxRecDepth 100000 in
theorem c_J3_checkIndex_r (l : Launch) (j N : Nat) (t : Nat) (hj : j < N) (hN : N < 2 ^ 31) : Met l yJ3_checkIndex_8e157 (.code yJ3_checkIndex_8e157 cJ3_checkIndex_8e157 3 (some .int) :: wsL_law) ({ frames := 0, cells := 0, slots := 0, locals := 0 }) (va_Pc [.int (nI j), .int (nI N), .ref t] (fun _ => True)) (vp_Si (fun r => r = nI j)) 0 0 (fun _ => False) := by
  refine Met.ofW (cc := cJ3_checkIndex_8e157) (maxL := 3) (ret := (some .int)) (by decide) rfl ?_
  intro p e s m args below meth c s₁ B hml hv
  obtain ⟨rfl, hT⟩ := hv
  have hx := B.exec
  have hb := B.bytes
  have hr := B.returns
  have hts0 := atoms_spec (ws := (.code yJ3_checkIndex_8e157 cJ3_checkIndex_8e157 3 (some .int) :: wsL_law)) B.pre
  have hts : ∀ w ∈ wsL_law, w.before _ s = true := fun w h => hts0 w (List.mem_cons_of_mem _ h)
  have hown : s.vm.findClass RJ3 = some m.cls := findClass_of_methodNamed B.named
  have hlocks := B.notSynchronized
  have hl := lv_entry ([.int (nI j), .int (nI N), .ref t]) (n := 3) (Nat.le_of_ble_eq_true rfl)
  rw [lg_entry_eq]
  generalize (lg_sl ([.int (nI j), .int (nI N), .ref t]) ++ List.replicate (3 - (lg_sl ([.int (nI j), .int (nI N), .ref t])).length) Slot.unset).toArray = ls at hl ⊢
  have hl : lv_has ls 3 [(0, .int (nI j)), (1, .int (nI N)), (2, .ref t)] := hl
  refine lv_iload_n hx hb dJ3_checkIndex_8e157_0 rfl (lv_at hl 0 rfl) ?_
  refine lv_if_lt (tgt := 9) hx hb dJ3_checkIndex_8e157_1 (by decide) (fun h9 => absurd h9 (nI_nlt (Nat.zero_le j) (by omega) : ¬ nI j < nI 0)) (fun _ => ?_)
  refine lv_iload_n hx hb dJ3_checkIndex_8e157_4 rfl (lv_at hl 0 rfl) ?_
  refine lv_iload_n hx hb dJ3_checkIndex_8e157_5 rfl (lv_at hl 1 rfl) ?_
  refine lv_icmp_lt (tgt := 16) hx hb dJ3_checkIndex_8e157_6 (by decide) (fun _ => ?_) (fun h9 => (h9 (nI_lt hj (by omega))).elim)
  refine lv_iload_n hx hb dJ3_checkIndex_8e157_16 rfl (lv_at hl 0 rfl) ?_
  exact W.iret (v := nI j) hx hb hr (fun t ht hW => ⟨_, rfl, rfl, ht⟩) (fun _ h => nomatch h) dJ3_checkIndex_8e157_17
set_option maxHeartbeats 4000000 in
set_option maxRecDepth 100000 in
theorem c_J0_checkIndex (l : Launch) (sa sv N : Nat) (f : Nat → Int32) (A : Nat → Prop) (j : Nat) (hj : j < N) (hN : N < 2 ^ 31) : Met l yJ0_checkIndex_df160 (.code yJ0_checkIndex_df160 cJ0_checkIndex_df160 2 none :: wsL_law) ({ frames := 1, cells := 0, slots := 0, locals := 22 }) (va_Pc [.int (nI j), .int (nI N)] (fun U => tStr sa sv N f A U U.heap)) (va_Sv (fun _ => True)) 0 0 (fun _ => False) := by
  refine Met.ofW (cc := cJ0_checkIndex_df160) (maxL := 2) (ret := none) (by decide) rfl ?_
  intro p e s m args below meth c s₁ B hml hv
  obtain ⟨rfl, hT⟩ := hv
  have hx := B.exec
  have hb := B.bytes
  have hr := B.returns
  have hts0 := atoms_spec (ws := (.code yJ0_checkIndex_df160 cJ0_checkIndex_df160 2 none :: wsL_law)) B.pre
  have hts : ∀ w ∈ wsL_law, w.before _ s = true := fun w h => hts0 w (List.mem_cons_of_mem _ h)
  have hown : s.vm.findClass RJ0 = some m.cls := findClass_of_methodNamed B.named
  have hlocks := B.notSynchronized
  have hl := lv_entry ([.int (nI j), .int (nI N)]) (n := 2) (Nat.le_of_ble_eq_true rfl)
  rw [lg_entry_eq]
  generalize (lg_sl ([.int (nI j), .int (nI N)]) ++ List.replicate (2 - (lg_sl ([.int (nI j), .int (nI N)])).length) Slot.unset).toArray = ls at hl ⊢
  have hl : lv_has ls 2 [(0, .int (nI j)), (1, .int (nI N))] := hl
  refine lv_iload_n hx hb dJ0_checkIndex_df160_0 rfl (lv_at hl 0 rfl) ?_
  refine lv_iload_n hx hb dJ0_checkIndex_df160_1 rfl (lv_at hl 1 rfl) ?_
  rcases hT.2.1 with hq | ⟨t, hq⟩
  · refine va_gets hx hb hq (va_S.rf (A := A)) hown (hts (Cond.fieldLink RJ0 1053 "jdk/internal/util/Preconditions" "SIOOBE_FORMATTER" "Ljava/util/function/BiFunction;") qw_886) (fun _ h9 => h9) dJ0_checkIndex_df160_2 ?_
    refine vp_callSi (va_Run.run (va_runS (As := [.int (nI j), .int (nI N), .null]) (rest := []) ⟨hx, hb, hml, hown, hts⟩ (c_J3_checkIndex_n l j N hj hN) (va_cwS 3 hts (tz_gS qw_887 qw_888 qw_889 qw_890) rfl rfl rfl (by decide +kernel) ⟨Nat.le_of_ble_eq_true rfl, Nat.le_of_ble_eq_true rfl⟩) ⟨tz_bl0, tz_pre0⟩ rfl rfl hl.1 rfl (lv_room (Nat.le_of_ble_eq_true rfl)) dJ0_checkIndex_df160_5 ⟨Nat.le_of_ble_eq_true rfl, Nat.le_of_ble_eq_true rfl⟩)) (fun r_117715 hw => ?_)
    refine lv_pop hx hb dJ0_checkIndex_df160_8 rfl ?_
    exact W.vret hx hb hr (fun t ht hW => ⟨rfl, trivial, ht⟩) (fun _ h => nomatch h) dJ0_checkIndex_df160_9
  · refine va_gets hx hb hq (va_S.rf (A := A)) hown (hts (Cond.fieldLink RJ0 1053 "jdk/internal/util/Preconditions" "SIOOBE_FORMATTER" "Ljava/util/function/BiFunction;") qw_886) (fun _ h9 => h9) dJ0_checkIndex_df160_2 ?_
    refine vp_callSi (va_Run.run (va_runS (As := [.int (nI j), .int (nI N), .ref t]) (rest := []) ⟨hx, hb, hml, hown, hts⟩ (c_J3_checkIndex_r l j N t hj hN) (va_cwS 3 hts (tz_gS qw_887 qw_888 qw_889 qw_890) rfl rfl rfl (by decide +kernel) ⟨Nat.le_of_ble_eq_true rfl, Nat.le_of_ble_eq_true rfl⟩) ⟨tz_bl0, tz_pre0⟩ rfl rfl hl.1 rfl (lv_room (Nat.le_of_ble_eq_true rfl)) dJ0_checkIndex_df160_5 ⟨Nat.le_of_ble_eq_true rfl, Nat.le_of_ble_eq_true rfl⟩)) (fun r_117716 hw => ?_)
    refine lv_pop hx hb dJ0_checkIndex_df160_8 rfl ?_
    exact W.vret hx hb hr (fun t ht hW => ⟨rfl, trivial, ht⟩) (fun _ h => nomatch h) dJ0_checkIndex_df160_9
set_option maxHeartbeats 4000000 in
set_option maxRecDepth 100000 in
theorem c_J1_charAt (l : Launch) (sa sv N : Nat) (f : Nat → Int32) (A : Nat → Prop) (j : Nat) (hj : j < N) (hN : N < 2 ^ 31) : Met l yJ1_charAt_3b067 (.code yJ1_charAt_3b067 cJ1_charAt_3b067 2 (some .char) :: wsL_law) ({ frames := 2, cells := 0, slots := 0, locals := 43 }) (va_Pc [.ref sv, .int (nI j)] (fun U => tStr sa sv N f A U U.heap)) (vp_Si (fun r => narrow .char (.int r) = .int r ∧ r = chr8 (f (nI j).toNatClampNeg))) 0 0 (fun _ => False) := by
  refine Met.ofW (cc := cJ1_charAt_3b067) (maxL := 2) (ret := (some .char)) (by decide) rfl ?_
  intro p e s m args below meth c s₁ B hml hv
  obtain ⟨rfl, hT⟩ := hv
  have hx := B.exec
  have hb := B.bytes
  have hr := B.returns
  have hts0 := atoms_spec (ws := (.code yJ1_charAt_3b067 cJ1_charAt_3b067 2 (some .char) :: wsL_law)) B.pre
  have hts : ∀ w ∈ wsL_law, w.before _ s = true := fun w h => hts0 w (List.mem_cons_of_mem _ h)
  have hown : s.vm.findClass RJ1 = some m.cls := findClass_of_methodNamed B.named
  have hlocks := B.notSynchronized
  have hl := lv_entry ([.ref sv, .int (nI j)]) (n := 2) (Nat.le_of_ble_eq_true rfl)
  rw [lg_entry_eq]
  generalize (lg_sl ([.ref sv, .int (nI j)]) ++ List.replicate (2 - (lg_sl ([.ref sv, .int (nI j)])).length) Slot.unset).toArray = ls at hl ⊢
  have hl : lv_has ls 2 [(0, .ref sv), (1, .int (nI j))] := hl
  refine lv_iload_n hx hb dJ1_charAt_3b067_0 rfl (lv_at hl 1 rfl) ?_
  refine lv_aload_n hx hb dJ1_charAt_3b067_1 rfl (lv_at hl 0 rfl) ?_
  refine va_tlen hx hb hT.2.2.2.2.2 (va_S.rf (A := A)) (v := nI N) rfl dJ1_charAt_3b067_2 ?_
  refine va_csv (va_Run.run (va_runS (As := [.int (nI j), .int (nI N)]) (rest := []) ⟨hx, hb, hml, hown, hts⟩ (c_J0_checkIndex l sa sv N f A j hj hN) (va_cwS 2 hts (tz_gS qw_891 qw_892 qw_884 qw_893) rfl rfl rfl (by decide +kernel) ⟨Nat.le_of_ble_eq_true rfl, Nat.le_of_ble_eq_true rfl⟩) ⟨tz_blJ, tz_preJ hT⟩ rfl rfl hl.1 rfl (lv_room (Nat.le_of_ble_eq_true rfl)) dJ1_charAt_3b067_3 ⟨Nat.le_of_ble_eq_true rfl, Nat.le_of_ble_eq_true rfl⟩)) (fun _ => ?_)
  refine lv_aload_n hx hb dJ1_charAt_3b067_6 rfl (lv_at hl 0 rfl) ?_
  refine lv_iload_n hx hb dJ1_charAt_3b067_7 rfl (lv_at hl 1 rfl) ?_
  refine va_tb hx hb hT.2.2.2.2.2 (va_S.rf (A := A)) (vp_in_nI hj hN) rfl dJ1_charAt_3b067_8 ?_
  refine lv_sipush (v := 255) hx hb dJ1_charAt_3b067_9 (by decide) ?_
  refine lv_iand hx hb dJ1_charAt_3b067_12 ?_
  refine lv_i2c hx hb dJ1_charAt_3b067_13 rfl ?_
  exact W.zret (v := _) hx hb hr (pk_nc _) (fun t ht hW => ⟨_, rfl, ⟨pk_nc _, rfl⟩, ht⟩) (fun _ h => nomatch h) dJ1_charAt_3b067_14
-- the answers of charAt are chars
set_option maxHeartbeats 4000000 in
set_option maxRecDepth 100000 in
theorem c_J0_charAt (l : Launch) (sa sv N : Nat) (f : Nat → Int32) (A : Nat → Prop) (j : Nat) (hj : j < N) (hN : N < 2 ^ 31) : Met l yJ0_charAt_5068e (.code yJ0_charAt_5068e cJ0_charAt_5068e 2 (some .char) :: wsL_law) ({ frames := 3, cells := 0, slots := 0, locals := 64 }) (va_Pc [.ref sa, .int (nI j)] (fun U => tStr sa sv N f A U U.heap)) (vp_Si (fun r => r = chr8 (f (nI j).toNatClampNeg))) 0 0 (fun _ => False) := by
  refine Met.ofW (cc := cJ0_charAt_5068e) (maxL := 2) (ret := (some .char)) (by decide) rfl ?_
  intro p e s m args below meth c s₁ B hml hv
  obtain ⟨rfl, hT⟩ := hv
  have hx := B.exec
  have hb := B.bytes
  have hr := B.returns
  have hts0 := atoms_spec (ws := (.code yJ0_charAt_5068e cJ0_charAt_5068e 2 (some .char) :: wsL_law)) B.pre
  have hts : ∀ w ∈ wsL_law, w.before _ s = true := fun w h => hts0 w (List.mem_cons_of_mem _ h)
  have hown : s.vm.findClass RJ0 = some m.cls := findClass_of_methodNamed B.named
  have hlocks := B.notSynchronized
  have hl := lv_entry ([.ref sa, .int (nI j)]) (n := 2) (Nat.le_of_ble_eq_true rfl)
  rw [lg_entry_eq]
  generalize (lg_sl ([.ref sa, .int (nI j)]) ++ List.replicate (2 - (lg_sl ([.ref sa, .int (nI j)])).length) Slot.unset).toArray = ls at hl ⊢
  have hl : lv_has ls 2 [(0, .ref sa), (1, .int (nI j))] := hl
  refine lv_aload_n hx hb dJ0_charAt_5068e_0 rfl (lv_at hl 0 rfl) ?_
  refine vp_callSi (va_Run.run (va_runV (As := []) (rest := []) ⟨hx, hb, hml, hown, hts⟩ (c_J0_isLatin1 l sa sv N f A) (cwV 0 hts (tz_gV qw_894 qw_895 qw_896 qw_884 qw_897) rfl rfl rfl (by decide +kernel) ⟨Nat.le_of_ble_eq_true rfl, Nat.le_of_ble_eq_true rfl⟩) ⟨tz_blJ, hT.recv, tz_preJ hT⟩ rfl rfl hl.1 rfl (lv_room (Nat.le_of_ble_eq_true rfl)) dJ0_charAt_5068e_1 ⟨Nat.le_of_ble_eq_true rfl, Nat.le_of_ble_eq_true rfl⟩)) (fun r_117717 hw => ?_)
  subst hw
  refine lv_if_eq (tgt := 16) hx hb dJ0_charAt_5068e_4 (by decide) (fun h9 => absurd h9 (by decide)) (fun _ => ?_)
  refine lv_aload_n hx hb dJ0_charAt_5068e_7 rfl (lv_at hl 0 rfl) ?_
  refine vk_getf hx hb hT.2.2.2.2.1 (va_S.rf (A := A)) hown (hts (Cond.fieldLink RJ0 9 "java/lang/String" "value" "[B") qw_880) (fun _ h9 => h9) dJ0_charAt_5068e_8 ?_
  refine lv_iload_n hx hb dJ0_charAt_5068e_11 rfl (lv_at hl 1 rfl) ?_
  refine vp_callSi (va_Run.run (va_runS (As := [.ref sv, .int (nI j)]) (rest := []) ⟨hx, hb, hml, hown, hts⟩ (c_J1_charAt l sa sv N f A j hj hN) (va_cwS 2 hts (tz_gS qw_898 qw_899 qw_900 qw_901) rfl rfl rfl (by decide +kernel) ⟨Nat.le_of_ble_eq_true rfl, Nat.le_of_ble_eq_true rfl⟩) ⟨tz_blJ, tz_preJ hT⟩ rfl rfl hl.1 rfl (lv_room (Nat.le_of_ble_eq_true rfl)) dJ0_charAt_5068e_12 ⟨Nat.le_of_ble_eq_true rfl, Nat.le_of_ble_eq_true rfl⟩)) (fun r_117718 hw => ?_)
  exact W.zret (v := r_117718) hx hb hr (hw.1) (fun t ht hW => ⟨_, rfl, hw.2, ht⟩) (fun _ h => nomatch h) dJ0_charAt_5068e_15
set_option maxHeartbeats 4000000 in
set_option maxRecDepth 100000 in
theorem c_X11_pack_3 (l : Launch) (sa sv : Nat) (f : Nat → Int32) (A : Nat → Prop) : Met l yX11_pack (.code yX11_pack cX11_pack 3 (some .int) :: wsL_law) ({ frames := 4, cells := 0, slots := 0, locals := 85 }) (va_Pc [.ref sa] (fun U => tStr sa sv 3 f A U U.heap)) (vp_Si (fun r => r = pk32 (fun j => chr8 (f j)) 3)) 0 0 (fun _ => False) := by
  refine Met.ofW (cc := cX11_pack) (maxL := 3) (ret := (some .int)) (by decide) rfl ?_
  intro p e s m args below meth c s₁ B hml hv
  obtain ⟨rfl, hT⟩ := hv
  have hx := B.exec
  have hb := B.bytes
  have hr := B.returns
  have hts0 := atoms_spec (ws := (.code yX11_pack cX11_pack 3 (some .int) :: wsL_law)) B.pre
  have hts : ∀ w ∈ wsL_law, w.before _ s = true := fun w h => hts0 w (List.mem_cons_of_mem _ h)
  have hown : s.vm.findClass RX11 = some m.cls := findClass_of_methodNamed B.named
  have hlocks := B.notSynchronized
  have hl := lv_entry ([.ref sa]) (n := 3) (Nat.le_of_ble_eq_true rfl)
  rw [lg_entry_eq]
  generalize (lg_sl ([.ref sa]) ++ List.replicate (3 - (lg_sl ([.ref sa])).length) Slot.unset).toArray = ls at hl ⊢
  have hl : lv_has ls 3 [(0, .ref sa)] := hl
  refine lv_iconst (v := 0) hx hb dX11_pack_0 (by decide) ?_
  refine lv_istore_n (lv' := [(1, .int 0), (0, .ref sa)]) hx hb dX11_pack_1 rfl hl (by decide) rfl (fun ls hl => ?_)
  refine lv_iconst (v := 0) hx hb dX11_pack_2 (by decide) ?_
  refine lv_istore_n (lv' := [(2, .int 0), (1, .int 0), (0, .ref sa)]) hx hb dX11_pack_3 rfl hl (by decide) rfl (fun ls hl => ?_)
  refine lv_iload_n hx hb dX11_pack_4 rfl (lv_at hl 0 rfl) ?_
  refine lv_aload_n hx hb dX11_pack_5 rfl (lv_at hl 2 rfl) ?_
  refine vp_callSi (va_Run.run (va_runV (As := []) (rest := [.int 0]) ⟨hx, hb, hml, hown, hts⟩ (c_J0_length l sa sv 3 f A) (cwV 0 hts (tz_gV qw_902 qw_903 qw_904 qw_884 qw_905) rfl rfl rfl (by decide +kernel) ⟨Nat.le_of_ble_eq_true rfl, Nat.le_of_ble_eq_true rfl⟩) ⟨tz_blJ, hT.recv, tz_preJ hT⟩ rfl rfl hl.1 rfl (lv_room (Nat.le_of_ble_eq_true rfl)) dX11_pack_6 ⟨Nat.le_of_ble_eq_true rfl, Nat.le_of_ble_eq_true rfl⟩)) (fun r_117719 hw => ?_)
  subst hw
  refine tz_i (y := 3) (by decide) ?_
  refine lv_icmp_ge (tgt := 40) hx hb dX11_pack_9 (by decide) (fun h9 => absurd h9 (by decide)) (fun _ => ?_)
  refine lv_iload_n hx hb dX11_pack_12 rfl (lv_at hl 0 rfl) ?_
  refine lv_bipush (v := 6) hx hb dX11_pack_13 (by decide) ?_
  refine lv_icmp_ge (tgt := 40) hx hb dX11_pack_15 (by decide) (fun h9 => absurd h9 (by decide)) (fun _ => ?_)
  refine lv_iload_n hx hb dX11_pack_18 rfl (lv_at hl 1 rfl) ?_
  refine lv_bipush (v := 27) hx hb dX11_pack_19 (by decide) ?_
  refine lv_imul hx hb dX11_pack_21 ?_
  refine tz_i (y := 0) (by decide +kernel) ?_
  refine lv_aload_n hx hb dX11_pack_22 rfl (lv_at hl 2 rfl) ?_
  refine lv_iload_n hx hb dX11_pack_23 rfl (lv_at hl 0 rfl) ?_
  refine tz_i (y := (nI 0)) (by decide) ?_
  refine vp_callSi (va_Run.run (va_runV (As := [.int (nI 0)]) (rest := [.int 0]) ⟨hx, hb, hml, hown, hts⟩ (c_J0_charAt l sa sv 3 f A 0 (by decide) (by decide)) (cwV 1 hts (tz_gV qw_906 qw_907 qw_908 qw_884 qw_909) rfl rfl rfl (by decide +kernel) ⟨Nat.le_of_ble_eq_true rfl, Nat.le_of_ble_eq_true rfl⟩) ⟨tz_blJ, hT.recv, tz_preJ hT⟩ rfl rfl hl.1 rfl (lv_room (Nat.le_of_ble_eq_true rfl)) dX11_pack_24 ⟨Nat.le_of_ble_eq_true rfl, Nat.le_of_ble_eq_true rfl⟩)) (fun r_117720 hw => ?_)
  have hc_0 := hw
  refine lv_bipush (v := 97) hx hb dX11_pack_27 (by decide) ?_
  refine lv_isub hx hb dX11_pack_29 ?_
  refine lv_iconst (v := 1) hx hb dX11_pack_30 (by decide) ?_
  refine lv_iadd hx hb dX11_pack_31 ?_
  refine lv_iadd hx hb dX11_pack_32 ?_
  refine lv_topi (fun v_117721 v_117721_e => ?_)
  refine lv_istore_n (lv' := [(1, .int v_117721), (2, .int 0), (0, .ref sa)]) hx hb dX11_pack_33 rfl hl (by decide) rfl (fun ls hl => ?_)
  refine lv_iinc (v := 1) (lv' := [(2, .int 1), (1, .int v_117721), (0, .ref sa)]) hx hb dX11_pack_34 hl (k := 1) rfl (by decide) (by decide) rfl (fun ls hl => ?_)
  refine lv_goto (tgt := 4) hx hb dX11_pack_37 (by decide) ?_
  refine lv_iload_n hx hb dX11_pack_4 rfl (lv_at hl 0 rfl) ?_
  refine lv_aload_n hx hb dX11_pack_5 rfl (lv_at hl 2 rfl) ?_
  refine vp_callSi (va_Run.run (va_runV (As := []) (rest := [.int 1]) ⟨hx, hb, hml, hown, hts⟩ (c_J0_length l sa sv 3 f A) (cwV 0 hts (tz_gV qw_902 qw_903 qw_904 qw_884 qw_905) rfl rfl rfl (by decide +kernel) ⟨Nat.le_of_ble_eq_true rfl, Nat.le_of_ble_eq_true rfl⟩) ⟨tz_blJ, hT.recv, tz_preJ hT⟩ rfl rfl hl.1 rfl (lv_room (Nat.le_of_ble_eq_true rfl)) dX11_pack_6 ⟨Nat.le_of_ble_eq_true rfl, Nat.le_of_ble_eq_true rfl⟩)) (fun r_117722 hw => ?_)
  subst hw
  refine tz_i (y := 3) (by decide) ?_
  refine lv_icmp_ge (tgt := 40) hx hb dX11_pack_9 (by decide) (fun h9 => absurd h9 (by decide)) (fun _ => ?_)
  refine lv_iload_n hx hb dX11_pack_12 rfl (lv_at hl 0 rfl) ?_
  refine lv_bipush (v := 6) hx hb dX11_pack_13 (by decide) ?_
  refine lv_icmp_ge (tgt := 40) hx hb dX11_pack_15 (by decide) (fun h9 => absurd h9 (by decide)) (fun _ => ?_)
  refine lv_iload_n hx hb dX11_pack_18 rfl (lv_at hl 1 rfl) ?_
  refine lv_bipush (v := 27) hx hb dX11_pack_19 (by decide) ?_
  refine lv_imul hx hb dX11_pack_21 ?_
  refine lv_aload_n hx hb dX11_pack_22 rfl (lv_at hl 2 rfl) ?_
  refine lv_iload_n hx hb dX11_pack_23 rfl (lv_at hl 0 rfl) ?_
  refine tz_i (y := (nI 1)) (by decide) ?_
  refine vp_callSi (va_Run.run (va_runV (As := [.int (nI 1)]) (rest := [.int (v_117721 * 27)]) ⟨hx, hb, hml, hown, hts⟩ (c_J0_charAt l sa sv 3 f A 1 (by decide) (by decide)) (cwV 1 hts (tz_gV qw_906 qw_907 qw_908 qw_884 qw_909) rfl rfl rfl (by decide +kernel) ⟨Nat.le_of_ble_eq_true rfl, Nat.le_of_ble_eq_true rfl⟩) ⟨tz_blJ, hT.recv, tz_preJ hT⟩ rfl rfl hl.1 rfl (lv_room (Nat.le_of_ble_eq_true rfl)) dX11_pack_24 ⟨Nat.le_of_ble_eq_true rfl, Nat.le_of_ble_eq_true rfl⟩)) (fun r_117723 hw => ?_)
  have hc_1 := hw
  refine lv_bipush (v := 97) hx hb dX11_pack_27 (by decide) ?_
  refine lv_isub hx hb dX11_pack_29 ?_
  refine lv_iconst (v := 1) hx hb dX11_pack_30 (by decide) ?_
  refine lv_iadd hx hb dX11_pack_31 ?_
  refine lv_iadd hx hb dX11_pack_32 ?_
  refine lv_topi (fun v_117724 v_117724_e => ?_)
  refine lv_istore_n (lv' := [(1, .int v_117724), (2, .int 1), (0, .ref sa)]) hx hb dX11_pack_33 rfl hl (by decide) rfl (fun ls hl => ?_)
  refine lv_iinc (v := 2) (lv' := [(2, .int 2), (1, .int v_117724), (0, .ref sa)]) hx hb dX11_pack_34 hl (k := 1) rfl (by decide) (by decide) rfl (fun ls hl => ?_)
  refine lv_goto (tgt := 4) hx hb dX11_pack_37 (by decide) ?_
  refine lv_iload_n hx hb dX11_pack_4 rfl (lv_at hl 0 rfl) ?_
  refine lv_aload_n hx hb dX11_pack_5 rfl (lv_at hl 2 rfl) ?_
  refine vp_callSi (va_Run.run (va_runV (As := []) (rest := [.int 2]) ⟨hx, hb, hml, hown, hts⟩ (c_J0_length l sa sv 3 f A) (cwV 0 hts (tz_gV qw_902 qw_903 qw_904 qw_884 qw_905) rfl rfl rfl (by decide +kernel) ⟨Nat.le_of_ble_eq_true rfl, Nat.le_of_ble_eq_true rfl⟩) ⟨tz_blJ, hT.recv, tz_preJ hT⟩ rfl rfl hl.1 rfl (lv_room (Nat.le_of_ble_eq_true rfl)) dX11_pack_6 ⟨Nat.le_of_ble_eq_true rfl, Nat.le_of_ble_eq_true rfl⟩)) (fun r_117725 hw => ?_)
  subst hw
  refine tz_i (y := 3) (by decide) ?_
  refine lv_icmp_ge (tgt := 40) hx hb dX11_pack_9 (by decide) (fun h9 => absurd h9 (by decide)) (fun _ => ?_)
  refine lv_iload_n hx hb dX11_pack_12 rfl (lv_at hl 0 rfl) ?_
  refine lv_bipush (v := 6) hx hb dX11_pack_13 (by decide) ?_
  refine lv_icmp_ge (tgt := 40) hx hb dX11_pack_15 (by decide) (fun h9 => absurd h9 (by decide)) (fun _ => ?_)
  refine lv_iload_n hx hb dX11_pack_18 rfl (lv_at hl 1 rfl) ?_
  refine lv_bipush (v := 27) hx hb dX11_pack_19 (by decide) ?_
  refine lv_imul hx hb dX11_pack_21 ?_
  refine lv_aload_n hx hb dX11_pack_22 rfl (lv_at hl 2 rfl) ?_
  refine lv_iload_n hx hb dX11_pack_23 rfl (lv_at hl 0 rfl) ?_
  refine tz_i (y := (nI 2)) (by decide) ?_
  refine vp_callSi (va_Run.run (va_runV (As := [.int (nI 2)]) (rest := [.int (v_117724 * 27)]) ⟨hx, hb, hml, hown, hts⟩ (c_J0_charAt l sa sv 3 f A 2 (by decide) (by decide)) (cwV 1 hts (tz_gV qw_906 qw_907 qw_908 qw_884 qw_909) rfl rfl rfl (by decide +kernel) ⟨Nat.le_of_ble_eq_true rfl, Nat.le_of_ble_eq_true rfl⟩) ⟨tz_blJ, hT.recv, tz_preJ hT⟩ rfl rfl hl.1 rfl (lv_room (Nat.le_of_ble_eq_true rfl)) dX11_pack_24 ⟨Nat.le_of_ble_eq_true rfl, Nat.le_of_ble_eq_true rfl⟩)) (fun r_117726 hw => ?_)
  have hc_2 := hw
  refine lv_bipush (v := 97) hx hb dX11_pack_27 (by decide) ?_
  refine lv_isub hx hb dX11_pack_29 ?_
  refine lv_iconst (v := 1) hx hb dX11_pack_30 (by decide) ?_
  refine lv_iadd hx hb dX11_pack_31 ?_
  refine lv_iadd hx hb dX11_pack_32 ?_
  refine lv_topi (fun v_117727 v_117727_e => ?_)
  refine lv_istore_n (lv' := [(1, .int v_117727), (2, .int 2), (0, .ref sa)]) hx hb dX11_pack_33 rfl hl (by decide) rfl (fun ls hl => ?_)
  refine lv_iinc (v := 3) (lv' := [(2, .int 3), (1, .int v_117727), (0, .ref sa)]) hx hb dX11_pack_34 hl (k := 1) rfl (by decide) (by decide) rfl (fun ls hl => ?_)
  refine lv_goto (tgt := 4) hx hb dX11_pack_37 (by decide) ?_
  refine lv_iload_n hx hb dX11_pack_4 rfl (lv_at hl 0 rfl) ?_
  refine lv_aload_n hx hb dX11_pack_5 rfl (lv_at hl 2 rfl) ?_
  refine vp_callSi (va_Run.run (va_runV (As := []) (rest := [.int 3]) ⟨hx, hb, hml, hown, hts⟩ (c_J0_length l sa sv 3 f A) (cwV 0 hts (tz_gV qw_902 qw_903 qw_904 qw_884 qw_905) rfl rfl rfl (by decide +kernel) ⟨Nat.le_of_ble_eq_true rfl, Nat.le_of_ble_eq_true rfl⟩) ⟨tz_blJ, hT.recv, tz_preJ hT⟩ rfl rfl hl.1 rfl (lv_room (Nat.le_of_ble_eq_true rfl)) dX11_pack_6 ⟨Nat.le_of_ble_eq_true rfl, Nat.le_of_ble_eq_true rfl⟩)) (fun r_117728 hw => ?_)
  subst hw
  refine tz_i (y := 3) (by decide) ?_
  refine lv_icmp_ge (tgt := 40) hx hb dX11_pack_9 (by decide) (fun _ => ?_) (fun h9 => (h9 (by decide)).elim)
  refine lv_iload_n hx hb dX11_pack_40 rfl (lv_at hl 1 rfl) ?_
  exact W.iret (v := v_117727) hx hb hr (fun t ht hW => ⟨_, rfl, (pack3 hc_0 hc_1 hc_2 v_117721_e v_117724_e v_117727_e), ht⟩) (fun _ h => nomatch h) dX11_pack_41
set_option maxHeartbeats 4000000 in
set_option maxRecDepth 100000 in
theorem c_X11_pack_6 (l : Launch) (sa sv : Nat) (f : Nat → Int32) (A : Nat → Prop) : Met l yX11_pack (.code yX11_pack cX11_pack 3 (some .int) :: wsL_law) ({ frames := 4, cells := 0, slots := 0, locals := 85 }) (va_Pc [.ref sa] (fun U => tStr sa sv 6 f A U U.heap)) (vp_Si (fun r => r = pk32 (fun j => chr8 (f j)) 6)) 0 0 (fun _ => False) := by
  refine Met.ofW (cc := cX11_pack) (maxL := 3) (ret := (some .int)) (by decide) rfl ?_
  intro p e s m args below meth c s₁ B hml hv
  obtain ⟨rfl, hT⟩ := hv
  have hx := B.exec
  have hb := B.bytes
  have hr := B.returns
  have hts0 := atoms_spec (ws := (.code yX11_pack cX11_pack 3 (some .int) :: wsL_law)) B.pre
  have hts : ∀ w ∈ wsL_law, w.before _ s = true := fun w h => hts0 w (List.mem_cons_of_mem _ h)
  have hown : s.vm.findClass RX11 = some m.cls := findClass_of_methodNamed B.named
  have hlocks := B.notSynchronized
  have hl := lv_entry ([.ref sa]) (n := 3) (Nat.le_of_ble_eq_true rfl)
  rw [lg_entry_eq]
  generalize (lg_sl ([.ref sa]) ++ List.replicate (3 - (lg_sl ([.ref sa])).length) Slot.unset).toArray = ls at hl ⊢
  have hl : lv_has ls 3 [(0, .ref sa)] := hl
  refine lv_iconst (v := 0) hx hb dX11_pack_0 (by decide) ?_
  refine lv_istore_n (lv' := [(1, .int 0), (0, .ref sa)]) hx hb dX11_pack_1 rfl hl (by decide) rfl (fun ls hl => ?_)
  refine lv_iconst (v := 0) hx hb dX11_pack_2 (by decide) ?_
  refine lv_istore_n (lv' := [(2, .int 0), (1, .int 0), (0, .ref sa)]) hx hb dX11_pack_3 rfl hl (by decide) rfl (fun ls hl => ?_)
  refine lv_iload_n hx hb dX11_pack_4 rfl (lv_at hl 0 rfl) ?_
  refine lv_aload_n hx hb dX11_pack_5 rfl (lv_at hl 2 rfl) ?_
  refine vp_callSi (va_Run.run (va_runV (As := []) (rest := [.int 0]) ⟨hx, hb, hml, hown, hts⟩ (c_J0_length l sa sv 6 f A) (cwV 0 hts (tz_gV qw_902 qw_903 qw_904 qw_884 qw_905) rfl rfl rfl (by decide +kernel) ⟨Nat.le_of_ble_eq_true rfl, Nat.le_of_ble_eq_true rfl⟩) ⟨tz_blJ, hT.recv, tz_preJ hT⟩ rfl rfl hl.1 rfl (lv_room (Nat.le_of_ble_eq_true rfl)) dX11_pack_6 ⟨Nat.le_of_ble_eq_true rfl, Nat.le_of_ble_eq_true rfl⟩)) (fun r_117729 hw => ?_)
  subst hw
  refine tz_i (y := 6) (by decide) ?_
  refine lv_icmp_ge (tgt := 40) hx hb dX11_pack_9 (by decide) (fun h9 => absurd h9 (by decide)) (fun _ => ?_)
  refine lv_iload_n hx hb dX11_pack_12 rfl (lv_at hl 0 rfl) ?_
  refine lv_bipush (v := 6) hx hb dX11_pack_13 (by decide) ?_
  refine lv_icmp_ge (tgt := 40) hx hb dX11_pack_15 (by decide) (fun h9 => absurd h9 (by decide)) (fun _ => ?_)
  refine lv_iload_n hx hb dX11_pack_18 rfl (lv_at hl 1 rfl) ?_
  refine lv_bipush (v := 27) hx hb dX11_pack_19 (by decide) ?_
  refine lv_imul hx hb dX11_pack_21 ?_
  refine tz_i (y := 0) (by decide +kernel) ?_
  refine lv_aload_n hx hb dX11_pack_22 rfl (lv_at hl 2 rfl) ?_
  refine lv_iload_n hx hb dX11_pack_23 rfl (lv_at hl 0 rfl) ?_
  refine tz_i (y := (nI 0)) (by decide) ?_
  refine vp_callSi (va_Run.run (va_runV (As := [.int (nI 0)]) (rest := [.int 0]) ⟨hx, hb, hml, hown, hts⟩ (c_J0_charAt l sa sv 6 f A 0 (by decide) (by decide)) (cwV 1 hts (tz_gV qw_906 qw_907 qw_908 qw_884 qw_909) rfl rfl rfl (by decide +kernel) ⟨Nat.le_of_ble_eq_true rfl, Nat.le_of_ble_eq_true rfl⟩) ⟨tz_blJ, hT.recv, tz_preJ hT⟩ rfl rfl hl.1 rfl (lv_room (Nat.le_of_ble_eq_true rfl)) dX11_pack_24 ⟨Nat.le_of_ble_eq_true rfl, Nat.le_of_ble_eq_true rfl⟩)) (fun r_117730 hw => ?_)
  have hc_0 := hw
  refine lv_bipush (v := 97) hx hb dX11_pack_27 (by decide) ?_
  refine lv_isub hx hb dX11_pack_29 ?_
  refine lv_iconst (v := 1) hx hb dX11_pack_30 (by decide) ?_
  refine lv_iadd hx hb dX11_pack_31 ?_
  refine lv_iadd hx hb dX11_pack_32 ?_
  refine lv_topi (fun v_117731 v_117731_e => ?_)
  refine lv_istore_n (lv' := [(1, .int v_117731), (2, .int 0), (0, .ref sa)]) hx hb dX11_pack_33 rfl hl (by decide) rfl (fun ls hl => ?_)
  refine lv_iinc (v := 1) (lv' := [(2, .int 1), (1, .int v_117731), (0, .ref sa)]) hx hb dX11_pack_34 hl (k := 1) rfl (by decide) (by decide) rfl (fun ls hl => ?_)
  refine lv_goto (tgt := 4) hx hb dX11_pack_37 (by decide) ?_
  refine lv_iload_n hx hb dX11_pack_4 rfl (lv_at hl 0 rfl) ?_
  refine lv_aload_n hx hb dX11_pack_5 rfl (lv_at hl 2 rfl) ?_
  refine vp_callSi (va_Run.run (va_runV (As := []) (rest := [.int 1]) ⟨hx, hb, hml, hown, hts⟩ (c_J0_length l sa sv 6 f A) (cwV 0 hts (tz_gV qw_902 qw_903 qw_904 qw_884 qw_905) rfl rfl rfl (by decide +kernel) ⟨Nat.le_of_ble_eq_true rfl, Nat.le_of_ble_eq_true rfl⟩) ⟨tz_blJ, hT.recv, tz_preJ hT⟩ rfl rfl hl.1 rfl (lv_room (Nat.le_of_ble_eq_true rfl)) dX11_pack_6 ⟨Nat.le_of_ble_eq_true rfl, Nat.le_of_ble_eq_true rfl⟩)) (fun r_117732 hw => ?_)
  subst hw
  refine tz_i (y := 6) (by decide) ?_
  refine lv_icmp_ge (tgt := 40) hx hb dX11_pack_9 (by decide) (fun h9 => absurd h9 (by decide)) (fun _ => ?_)
  refine lv_iload_n hx hb dX11_pack_12 rfl (lv_at hl 0 rfl) ?_
  refine lv_bipush (v := 6) hx hb dX11_pack_13 (by decide) ?_
  refine lv_icmp_ge (tgt := 40) hx hb dX11_pack_15 (by decide) (fun h9 => absurd h9 (by decide)) (fun _ => ?_)
  refine lv_iload_n hx hb dX11_pack_18 rfl (lv_at hl 1 rfl) ?_
  refine lv_bipush (v := 27) hx hb dX11_pack_19 (by decide) ?_
  refine lv_imul hx hb dX11_pack_21 ?_
  refine lv_aload_n hx hb dX11_pack_22 rfl (lv_at hl 2 rfl) ?_
  refine lv_iload_n hx hb dX11_pack_23 rfl (lv_at hl 0 rfl) ?_
  refine tz_i (y := (nI 1)) (by decide) ?_
  refine vp_callSi (va_Run.run (va_runV (As := [.int (nI 1)]) (rest := [.int (v_117731 * 27)]) ⟨hx, hb, hml, hown, hts⟩ (c_J0_charAt l sa sv 6 f A 1 (by decide) (by decide)) (cwV 1 hts (tz_gV qw_906 qw_907 qw_908 qw_884 qw_909) rfl rfl rfl (by decide +kernel) ⟨Nat.le_of_ble_eq_true rfl, Nat.le_of_ble_eq_true rfl⟩) ⟨tz_blJ, hT.recv, tz_preJ hT⟩ rfl rfl hl.1 rfl (lv_room (Nat.le_of_ble_eq_true rfl)) dX11_pack_24 ⟨Nat.le_of_ble_eq_true rfl, Nat.le_of_ble_eq_true rfl⟩)) (fun r_117733 hw => ?_)
  have hc_1 := hw
  refine lv_bipush (v := 97) hx hb dX11_pack_27 (by decide) ?_
  refine lv_isub hx hb dX11_pack_29 ?_
  refine lv_iconst (v := 1) hx hb dX11_pack_30 (by decide) ?_
  refine lv_iadd hx hb dX11_pack_31 ?_
  refine lv_iadd hx hb dX11_pack_32 ?_
  refine lv_topi (fun v_117734 v_117734_e => ?_)
  refine lv_istore_n (lv' := [(1, .int v_117734), (2, .int 1), (0, .ref sa)]) hx hb dX11_pack_33 rfl hl (by decide) rfl (fun ls hl => ?_)
  refine lv_iinc (v := 2) (lv' := [(2, .int 2), (1, .int v_117734), (0, .ref sa)]) hx hb dX11_pack_34 hl (k := 1) rfl (by decide) (by decide) rfl (fun ls hl => ?_)
  refine lv_goto (tgt := 4) hx hb dX11_pack_37 (by decide) ?_
  refine lv_iload_n hx hb dX11_pack_4 rfl (lv_at hl 0 rfl) ?_
  refine lv_aload_n hx hb dX11_pack_5 rfl (lv_at hl 2 rfl) ?_
  refine vp_callSi (va_Run.run (va_runV (As := []) (rest := [.int 2]) ⟨hx, hb, hml, hown, hts⟩ (c_J0_length l sa sv 6 f A) (cwV 0 hts (tz_gV qw_902 qw_903 qw_904 qw_884 qw_905) rfl rfl rfl (by decide +kernel) ⟨Nat.le_of_ble_eq_true rfl, Nat.le_of_ble_eq_true rfl⟩) ⟨tz_blJ, hT.recv, tz_preJ hT⟩ rfl rfl hl.1 rfl (lv_room (Nat.le_of_ble_eq_true rfl)) dX11_pack_6 ⟨Nat.le_of_ble_eq_true rfl, Nat.le_of_ble_eq_true rfl⟩)) (fun r_117735 hw => ?_)
  subst hw
  refine tz_i (y := 6) (by decide) ?_
  refine lv_icmp_ge (tgt := 40) hx hb dX11_pack_9 (by decide) (fun h9 => absurd h9 (by decide)) (fun _ => ?_)
  refine lv_iload_n hx hb dX11_pack_12 rfl (lv_at hl 0 rfl) ?_
  refine lv_bipush (v := 6) hx hb dX11_pack_13 (by decide) ?_
  refine lv_icmp_ge (tgt := 40) hx hb dX11_pack_15 (by decide) (fun h9 => absurd h9 (by decide)) (fun _ => ?_)
  refine lv_iload_n hx hb dX11_pack_18 rfl (lv_at hl 1 rfl) ?_
  refine lv_bipush (v := 27) hx hb dX11_pack_19 (by decide) ?_
  refine lv_imul hx hb dX11_pack_21 ?_
  refine lv_aload_n hx hb dX11_pack_22 rfl (lv_at hl 2 rfl) ?_
  refine lv_iload_n hx hb dX11_pack_23 rfl (lv_at hl 0 rfl) ?_
  refine tz_i (y := (nI 2)) (by decide) ?_
  refine vp_callSi (va_Run.run (va_runV (As := [.int (nI 2)]) (rest := [.int (v_117734 * 27)]) ⟨hx, hb, hml, hown, hts⟩ (c_J0_charAt l sa sv 6 f A 2 (by decide) (by decide)) (cwV 1 hts (tz_gV qw_906 qw_907 qw_908 qw_884 qw_909) rfl rfl rfl (by decide +kernel) ⟨Nat.le_of_ble_eq_true rfl, Nat.le_of_ble_eq_true rfl⟩) ⟨tz_blJ, hT.recv, tz_preJ hT⟩ rfl rfl hl.1 rfl (lv_room (Nat.le_of_ble_eq_true rfl)) dX11_pack_24 ⟨Nat.le_of_ble_eq_true rfl, Nat.le_of_ble_eq_true rfl⟩)) (fun r_117736 hw => ?_)
  have hc_2 := hw
  refine lv_bipush (v := 97) hx hb dX11_pack_27 (by decide) ?_
  refine lv_isub hx hb dX11_pack_29 ?_
  refine lv_iconst (v := 1) hx hb dX11_pack_30 (by decide) ?_
  refine lv_iadd hx hb dX11_pack_31 ?_
  refine lv_iadd hx hb dX11_pack_32 ?_
  refine lv_topi (fun v_117737 v_117737_e => ?_)
  refine lv_istore_n (lv' := [(1, .int v_117737), (2, .int 2), (0, .ref sa)]) hx hb dX11_pack_33 rfl hl (by decide) rfl (fun ls hl => ?_)
  refine lv_iinc (v := 3) (lv' := [(2, .int 3), (1, .int v_117737), (0, .ref sa)]) hx hb dX11_pack_34 hl (k := 1) rfl (by decide) (by decide) rfl (fun ls hl => ?_)
  refine lv_goto (tgt := 4) hx hb dX11_pack_37 (by decide) ?_
  refine lv_iload_n hx hb dX11_pack_4 rfl (lv_at hl 0 rfl) ?_
  refine lv_aload_n hx hb dX11_pack_5 rfl (lv_at hl 2 rfl) ?_
  refine vp_callSi (va_Run.run (va_runV (As := []) (rest := [.int 3]) ⟨hx, hb, hml, hown, hts⟩ (c_J0_length l sa sv 6 f A) (cwV 0 hts (tz_gV qw_902 qw_903 qw_904 qw_884 qw_905) rfl rfl rfl (by decide +kernel) ⟨Nat.le_of_ble_eq_true rfl, Nat.le_of_ble_eq_true rfl⟩) ⟨tz_blJ, hT.recv, tz_preJ hT⟩ rfl rfl hl.1 rfl (lv_room (Nat.le_of_ble_eq_true rfl)) dX11_pack_6 ⟨Nat.le_of_ble_eq_true rfl, Nat.le_of_ble_eq_true rfl⟩)) (fun r_117738 hw => ?_)
  subst hw
  refine tz_i (y := 6) (by decide) ?_
  refine lv_icmp_ge (tgt := 40) hx hb dX11_pack_9 (by decide) (fun h9 => absurd h9 (by decide)) (fun _ => ?_)
  refine lv_iload_n hx hb dX11_pack_12 rfl (lv_at hl 0 rfl) ?_
  refine lv_bipush (v := 6) hx hb dX11_pack_13 (by decide) ?_
  refine lv_icmp_ge (tgt := 40) hx hb dX11_pack_15 (by decide) (fun h9 => absurd h9 (by decide)) (fun _ => ?_)
  refine lv_iload_n hx hb dX11_pack_18 rfl (lv_at hl 1 rfl) ?_
  refine lv_bipush (v := 27) hx hb dX11_pack_19 (by decide) ?_
  refine lv_imul hx hb dX11_pack_21 ?_
  refine lv_aload_n hx hb dX11_pack_22 rfl (lv_at hl 2 rfl) ?_
  refine lv_iload_n hx hb dX11_pack_23 rfl (lv_at hl 0 rfl) ?_
  refine tz_i (y := (nI 3)) (by decide) ?_
  refine vp_callSi (va_Run.run (va_runV (As := [.int (nI 3)]) (rest := [.int (v_117737 * 27)]) ⟨hx, hb, hml, hown, hts⟩ (c_J0_charAt l sa sv 6 f A 3 (by decide) (by decide)) (cwV 1 hts (tz_gV qw_906 qw_907 qw_908 qw_884 qw_909) rfl rfl rfl (by decide +kernel) ⟨Nat.le_of_ble_eq_true rfl, Nat.le_of_ble_eq_true rfl⟩) ⟨tz_blJ, hT.recv, tz_preJ hT⟩ rfl rfl hl.1 rfl (lv_room (Nat.le_of_ble_eq_true rfl)) dX11_pack_24 ⟨Nat.le_of_ble_eq_true rfl, Nat.le_of_ble_eq_true rfl⟩)) (fun r_117739 hw => ?_)
  have hc_3 := hw
  refine lv_bipush (v := 97) hx hb dX11_pack_27 (by decide) ?_
  refine lv_isub hx hb dX11_pack_29 ?_
  refine lv_iconst (v := 1) hx hb dX11_pack_30 (by decide) ?_
  refine lv_iadd hx hb dX11_pack_31 ?_
  refine lv_iadd hx hb dX11_pack_32 ?_
  refine lv_topi (fun v_117740 v_117740_e => ?_)
  refine lv_istore_n (lv' := [(1, .int v_117740), (2, .int 3), (0, .ref sa)]) hx hb dX11_pack_33 rfl hl (by decide) rfl (fun ls hl => ?_)
  refine lv_iinc (v := 4) (lv' := [(2, .int 4), (1, .int v_117740), (0, .ref sa)]) hx hb dX11_pack_34 hl (k := 1) rfl (by decide) (by decide) rfl (fun ls hl => ?_)
  refine lv_goto (tgt := 4) hx hb dX11_pack_37 (by decide) ?_
  refine lv_iload_n hx hb dX11_pack_4 rfl (lv_at hl 0 rfl) ?_
  refine lv_aload_n hx hb dX11_pack_5 rfl (lv_at hl 2 rfl) ?_
  refine vp_callSi (va_Run.run (va_runV (As := []) (rest := [.int 4]) ⟨hx, hb, hml, hown, hts⟩ (c_J0_length l sa sv 6 f A) (cwV 0 hts (tz_gV qw_902 qw_903 qw_904 qw_884 qw_905) rfl rfl rfl (by decide +kernel) ⟨Nat.le_of_ble_eq_true rfl, Nat.le_of_ble_eq_true rfl⟩) ⟨tz_blJ, hT.recv, tz_preJ hT⟩ rfl rfl hl.1 rfl (lv_room (Nat.le_of_ble_eq_true rfl)) dX11_pack_6 ⟨Nat.le_of_ble_eq_true rfl, Nat.le_of_ble_eq_true rfl⟩)) (fun r_117741 hw => ?_)
  subst hw
  refine tz_i (y := 6) (by decide) ?_
  refine lv_icmp_ge (tgt := 40) hx hb dX11_pack_9 (by decide) (fun h9 => absurd h9 (by decide)) (fun _ => ?_)
  refine lv_iload_n hx hb dX11_pack_12 rfl (lv_at hl 0 rfl) ?_
  refine lv_bipush (v := 6) hx hb dX11_pack_13 (by decide) ?_
  refine lv_icmp_ge (tgt := 40) hx hb dX11_pack_15 (by decide) (fun h9 => absurd h9 (by decide)) (fun _ => ?_)
  refine lv_iload_n hx hb dX11_pack_18 rfl (lv_at hl 1 rfl) ?_
  refine lv_bipush (v := 27) hx hb dX11_pack_19 (by decide) ?_
  refine lv_imul hx hb dX11_pack_21 ?_
  refine lv_aload_n hx hb dX11_pack_22 rfl (lv_at hl 2 rfl) ?_
  refine lv_iload_n hx hb dX11_pack_23 rfl (lv_at hl 0 rfl) ?_
  refine tz_i (y := (nI 4)) (by decide) ?_
  refine vp_callSi (va_Run.run (va_runV (As := [.int (nI 4)]) (rest := [.int (v_117740 * 27)]) ⟨hx, hb, hml, hown, hts⟩ (c_J0_charAt l sa sv 6 f A 4 (by decide) (by decide)) (cwV 1 hts (tz_gV qw_906 qw_907 qw_908 qw_884 qw_909) rfl rfl rfl (by decide +kernel) ⟨Nat.le_of_ble_eq_true rfl, Nat.le_of_ble_eq_true rfl⟩) ⟨tz_blJ, hT.recv, tz_preJ hT⟩ rfl rfl hl.1 rfl (lv_room (Nat.le_of_ble_eq_true rfl)) dX11_pack_24 ⟨Nat.le_of_ble_eq_true rfl, Nat.le_of_ble_eq_true rfl⟩)) (fun r_117742 hw => ?_)
  have hc_4 := hw
  refine lv_bipush (v := 97) hx hb dX11_pack_27 (by decide) ?_
  refine lv_isub hx hb dX11_pack_29 ?_
  refine lv_iconst (v := 1) hx hb dX11_pack_30 (by decide) ?_
  refine lv_iadd hx hb dX11_pack_31 ?_
  refine lv_iadd hx hb dX11_pack_32 ?_
  refine lv_topi (fun v_117743 v_117743_e => ?_)
  refine lv_istore_n (lv' := [(1, .int v_117743), (2, .int 4), (0, .ref sa)]) hx hb dX11_pack_33 rfl hl (by decide) rfl (fun ls hl => ?_)
  refine lv_iinc (v := 5) (lv' := [(2, .int 5), (1, .int v_117743), (0, .ref sa)]) hx hb dX11_pack_34 hl (k := 1) rfl (by decide) (by decide) rfl (fun ls hl => ?_)
  refine lv_goto (tgt := 4) hx hb dX11_pack_37 (by decide) ?_
  refine lv_iload_n hx hb dX11_pack_4 rfl (lv_at hl 0 rfl) ?_
  refine lv_aload_n hx hb dX11_pack_5 rfl (lv_at hl 2 rfl) ?_
  refine vp_callSi (va_Run.run (va_runV (As := []) (rest := [.int 5]) ⟨hx, hb, hml, hown, hts⟩ (c_J0_length l sa sv 6 f A) (cwV 0 hts (tz_gV qw_902 qw_903 qw_904 qw_884 qw_905) rfl rfl rfl (by decide +kernel) ⟨Nat.le_of_ble_eq_true rfl, Nat.le_of_ble_eq_true rfl⟩) ⟨tz_blJ, hT.recv, tz_preJ hT⟩ rfl rfl hl.1 rfl (lv_room (Nat.le_of_ble_eq_true rfl)) dX11_pack_6 ⟨Nat.le_of_ble_eq_true rfl, Nat.le_of_ble_eq_true rfl⟩)) (fun r_117744 hw => ?_)
  subst hw
  refine tz_i (y := 6) (by decide) ?_
  refine lv_icmp_ge (tgt := 40) hx hb dX11_pack_9 (by decide) (fun h9 => absurd h9 (by decide)) (fun _ => ?_)
  refine lv_iload_n hx hb dX11_pack_12 rfl (lv_at hl 0 rfl) ?_
  refine lv_bipush (v := 6) hx hb dX11_pack_13 (by decide) ?_
  refine lv_icmp_ge (tgt := 40) hx hb dX11_pack_15 (by decide) (fun h9 => absurd h9 (by decide)) (fun _ => ?_)
  refine lv_iload_n hx hb dX11_pack_18 rfl (lv_at hl 1 rfl) ?_
  refine lv_bipush (v := 27) hx hb dX11_pack_19 (by decide) ?_
  refine lv_imul hx hb dX11_pack_21 ?_
  refine lv_aload_n hx hb dX11_pack_22 rfl (lv_at hl 2 rfl) ?_
  refine lv_iload_n hx hb dX11_pack_23 rfl (lv_at hl 0 rfl) ?_
  refine tz_i (y := (nI 5)) (by decide) ?_
  refine vp_callSi (va_Run.run (va_runV (As := [.int (nI 5)]) (rest := [.int (v_117743 * 27)]) ⟨hx, hb, hml, hown, hts⟩ (c_J0_charAt l sa sv 6 f A 5 (by decide) (by decide)) (cwV 1 hts (tz_gV qw_906 qw_907 qw_908 qw_884 qw_909) rfl rfl rfl (by decide +kernel) ⟨Nat.le_of_ble_eq_true rfl, Nat.le_of_ble_eq_true rfl⟩) ⟨tz_blJ, hT.recv, tz_preJ hT⟩ rfl rfl hl.1 rfl (lv_room (Nat.le_of_ble_eq_true rfl)) dX11_pack_24 ⟨Nat.le_of_ble_eq_true rfl, Nat.le_of_ble_eq_true rfl⟩)) (fun r_117745 hw => ?_)
  have hc_5 := hw
  refine lv_bipush (v := 97) hx hb dX11_pack_27 (by decide) ?_
  refine lv_isub hx hb dX11_pack_29 ?_
  refine lv_iconst (v := 1) hx hb dX11_pack_30 (by decide) ?_
  refine lv_iadd hx hb dX11_pack_31 ?_
  refine lv_iadd hx hb dX11_pack_32 ?_
  refine lv_topi (fun v_117746 v_117746_e => ?_)
  refine lv_istore_n (lv' := [(1, .int v_117746), (2, .int 5), (0, .ref sa)]) hx hb dX11_pack_33 rfl hl (by decide) rfl (fun ls hl => ?_)
  refine lv_iinc (v := 6) (lv' := [(2, .int 6), (1, .int v_117746), (0, .ref sa)]) hx hb dX11_pack_34 hl (k := 1) rfl (by decide) (by decide) rfl (fun ls hl => ?_)
  refine lv_goto (tgt := 4) hx hb dX11_pack_37 (by decide) ?_
  refine lv_iload_n hx hb dX11_pack_4 rfl (lv_at hl 0 rfl) ?_
  refine lv_aload_n hx hb dX11_pack_5 rfl (lv_at hl 2 rfl) ?_
  refine vp_callSi (va_Run.run (va_runV (As := []) (rest := [.int 6]) ⟨hx, hb, hml, hown, hts⟩ (c_J0_length l sa sv 6 f A) (cwV 0 hts (tz_gV qw_902 qw_903 qw_904 qw_884 qw_905) rfl rfl rfl (by decide +kernel) ⟨Nat.le_of_ble_eq_true rfl, Nat.le_of_ble_eq_true rfl⟩) ⟨tz_blJ, hT.recv, tz_preJ hT⟩ rfl rfl hl.1 rfl (lv_room (Nat.le_of_ble_eq_true rfl)) dX11_pack_6 ⟨Nat.le_of_ble_eq_true rfl, Nat.le_of_ble_eq_true rfl⟩)) (fun r_117747 hw => ?_)
  subst hw
  refine tz_i (y := 6) (by decide) ?_
  refine lv_icmp_ge (tgt := 40) hx hb dX11_pack_9 (by decide) (fun _ => ?_) (fun h9 => (h9 (by decide)).elim)
  refine lv_iload_n hx hb dX11_pack_40 rfl (lv_at hl 1 rfl) ?_
  exact W.iret (v := v_117746) hx hb hr (fun t ht hW => ⟨_, rfl, (pack6 hc_0 hc_1 hc_2 hc_3 hc_4 hc_5 v_117731_e v_117734_e v_117737_e v_117740_e v_117743_e v_117746_e), ht⟩) (fun _ h => nomatch h) dX11_pack_41
