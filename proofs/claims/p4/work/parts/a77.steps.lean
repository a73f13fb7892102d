theorem qw_619 : Cond.fieldLink RX7 24 "ChanceRings$Steps" "count" "I" ∈ wsL_law := tseg_1 (by decide +kernel) (List.mem_of_getElem? (i := 219) (by decide +kernel))
theorem qw_620 : Cond.fieldLink RX7 9 "ChanceRings$Steps" "what" "[I" ∈ wsL_law := tseg_1 (by decide +kernel) (List.mem_of_getElem? (i := 215) (by decide +kernel))
theorem qw_621 : Cond.methodLink RX7 31 arraycopyName ∈ wsL_law := tseg_4 (by decide +kernel) (List.mem_of_getElem? (i := 25) (by decide +kernel))
theorem qw_622 : Cond.fieldLink RX7 15 "ChanceRings$Steps" "node" "[I" ∈ wsL_law := tseg_1 (by decide +kernel) (List.mem_of_getElem? (i := 216) (by decide +kernel))
theorem qw_623 : Cond.fieldLink RX7 18 "ChanceRings$Steps" "index" "[I" ∈ wsL_law := tseg_1 (by decide +kernel) (List.mem_of_getElem? (i := 217) (by decide +kernel))
theorem qw_624 : Cond.fieldLink RX7 21 "ChanceRings$Steps" "before" "[I" ∈ wsL_law := tseg_1 (by decide +kernel) (List.mem_of_getElem? (i := 218) (by decide +kernel))
theorem qw_625 : Cond.methodLink RX7 28 yX7_forgetOldest ∈ wsL_law := tseg_4 (by decide +kernel) (List.mem_of_getElem? (i := 21) (by decide +kernel))
theorem qw_626 : Cond.instanceMethod yX7_forgetOldest ∈ wsL_law := tseg_4 (by decide +kernel) (List.mem_of_getElem? (i := 23) (by decide +kernel))
theorem qw_627 : Cond.selects RX7 yX7_forgetOldest yX7_forgetOldest ∈ wsL_law := List.mem_filter.mpr ⟨List.mem_append_left _ (List.mem_of_getElem? (i := 32) (by decide +kernel)), by decide +kernel⟩
theorem qw_628 : Cond.initialized RX7 ∈ wsL_law := tseg_1 (by decide +kernel) (List.mem_of_getElem? (i := 9) (by decide +kernel))
theorem qw_629 : Cond.code yX7_forgetOldest cX7_forgetOldest 1 none ∈ wsL_law := tseg_4 (by decide +kernel) (List.mem_of_getElem? (i := 24) (by decide +kernel))
theorem qw_630 : Cond.fieldLink RX7 37 "ChanceRings$Net" "held" "[I" ∈ wsL_law := tseg_1 (by decide +kernel) (List.mem_of_getElem? (i := 87) (by decide +kernel))
theorem qw_631 : Cond.methodLink RX7 42 yX2_setWeight ∈ wsL_law := tseg_4 (by decide +kernel) (List.mem_of_getElem? (i := 206) (by decide +kernel))
theorem qw_632 : Cond.instanceMethod yX2_setWeight ∈ wsL_law := tseg_4 (by decide +kernel) (List.mem_of_getElem? (i := 40) (by decide +kernel))
theorem qw_633 : Cond.selects RX2 yX2_setWeight yX2_setWeight ∈ wsL_law := tseg_4 (by decide +kernel) (List.mem_of_getElem? (i := 41) (by decide +kernel))
theorem qw_634 : Cond.code yX2_setWeight cX2_setWeight 4 none ∈ wsL_law := tseg_4 (by decide +kernel) (List.mem_of_getElem? (i := 42) (by decide +kernel))
theorem qw_635 : Cond.fieldLink RX7 46 "ChanceRings$Net" "pay" "[I" ∈ wsL_law := tseg_1 (by decide +kernel) (List.mem_of_getElem? (i := 72) (by decide +kernel))
theorem dX7_add_0 : decode cX7_add 0 = .ok (.aload_n 0, 1) := by decide +kernel
theorem dX7_add_1 : decode cX7_add 1 = .ok (.getfield 24, 3) := by decide +kernel
theorem dX7_add_4 : decode cX7_add 4 = .ok (.bipush 8, 2) := by decide +kernel
theorem dX7_add_6 : decode cX7_add 6 = .ok (.if_icmp .lt 7, 3) := by decide +kernel
theorem dX7_add_9 : decode cX7_add 9 = .ok (.aload_n 0, 1) := by decide +kernel
theorem dX7_add_10 : decode cX7_add 10 = .ok (.invokevirtual 28, 3) := by decide +kernel
theorem dX7_add_13 : decode cX7_add 13 = .ok (.aload_n 0, 1) := by decide +kernel
theorem dX7_add_14 : decode cX7_add 14 = .ok (.getfield 9, 3) := by decide +kernel
theorem dX7_add_17 : decode cX7_add 17 = .ok (.aload_n 0, 1) := by decide +kernel
theorem dX7_add_18 : decode cX7_add 18 = .ok (.getfield 24, 3) := by decide +kernel
theorem dX7_add_21 : decode cX7_add 21 = .ok (.iload_n 1, 1) := by decide +kernel
theorem dX7_add_22 : decode cX7_add 22 = .ok (.iastore, 1) := by decide +kernel
theorem dX7_add_23 : decode cX7_add 23 = .ok (.aload_n 0, 1) := by decide +kernel
theorem dX7_add_24 : decode cX7_add 24 = .ok (.getfield 15, 3) := by decide +kernel
theorem dX7_add_27 : decode cX7_add 27 = .ok (.aload_n 0, 1) := by decide +kernel
theorem dX7_add_28 : decode cX7_add 28 = .ok (.getfield 24, 3) := by decide +kernel
theorem dX7_add_31 : decode cX7_add 31 = .ok (.iload_n 2, 1) := by decide +kernel
theorem dX7_add_32 : decode cX7_add 32 = .ok (.iastore, 1) := by decide +kernel
theorem dX7_add_33 : decode cX7_add 33 = .ok (.aload_n 0, 1) := by decide +kernel
theorem dX7_add_34 : decode cX7_add 34 = .ok (.getfield 18, 3) := by decide +kernel
theorem dX7_add_37 : decode cX7_add 37 = .ok (.aload_n 0, 1) := by decide +kernel
theorem dX7_add_38 : decode cX7_add 38 = .ok (.getfield 24, 3) := by decide +kernel
theorem dX7_add_41 : decode cX7_add 41 = .ok (.iload_n 3, 1) := by decide +kernel
theorem dX7_add_42 : decode cX7_add 42 = .ok (.iastore, 1) := by decide +kernel
theorem dX7_add_43 : decode cX7_add 43 = .ok (.aload_n 0, 1) := by decide +kernel
theorem dX7_add_44 : decode cX7_add 44 = .ok (.getfield 21, 3) := by decide +kernel
theorem dX7_add_47 : decode cX7_add 47 = .ok (.aload_n 0, 1) := by decide +kernel
theorem dX7_add_48 : decode cX7_add 48 = .ok (.getfield 24, 3) := by decide +kernel
theorem dX7_add_51 : decode cX7_add 51 = .ok (.iload 4, 2) := by decide +kernel
theorem dX7_add_53 : decode cX7_add 53 = .ok (.iastore, 1) := by decide +kernel
theorem dX7_add_54 : decode cX7_add 54 = .ok (.aload_n 0, 1) := by decide +kernel
theorem dX7_add_55 : decode cX7_add 55 = .ok (.dup, 1) := by decide +kernel
theorem dX7_add_56 : decode cX7_add 56 = .ok (.getfield 24, 3) := by decide +kernel
theorem dX7_add_59 : decode cX7_add 59 = .ok (.iconst 1, 1) := by decide +kernel
theorem dX7_add_60 : decode cX7_add 60 = .ok (.iadd, 1) := by decide +kernel
theorem dX7_add_61 : decode cX7_add 61 = .ok (.putfield 24, 3) := by decide +kernel
theorem dX7_add_64 : decode cX7_add 64 = .ok (.return_, 1) := by decide +kernel
theorem dX7_forgetOldest_0 : decode cX7_forgetOldest 0 = .ok (.aload_n 0, 1) := by decide +kernel
theorem dX7_forgetOldest_1 : decode cX7_forgetOldest 1 = .ok (.bipush 7, 2) := by decide +kernel
theorem dX7_forgetOldest_3 : decode cX7_forgetOldest 3 = .ok (.putfield 24, 3) := by decide +kernel
theorem dX7_forgetOldest_6 : decode cX7_forgetOldest 6 = .ok (.aload_n 0, 1) := by decide +kernel
theorem dX7_forgetOldest_7 : decode cX7_forgetOldest 7 = .ok (.getfield 9, 3) := by decide +kernel
theorem dX7_forgetOldest_10 : decode cX7_forgetOldest 10 = .ok (.iconst 1, 1) := by decide +kernel
theorem dX7_forgetOldest_11 : decode cX7_forgetOldest 11 = .ok (.aload_n 0, 1) := by decide +kernel
theorem dX7_forgetOldest_12 : decode cX7_forgetOldest 12 = .ok (.getfield 9, 3) := by decide +kernel
theorem dX7_forgetOldest_15 : decode cX7_forgetOldest 15 = .ok (.iconst 0, 1) := by decide +kernel
theorem dX7_forgetOldest_16 : decode cX7_forgetOldest 16 = .ok (.aload_n 0, 1) := by decide +kernel
theorem dX7_forgetOldest_17 : decode cX7_forgetOldest 17 = .ok (.getfield 24, 3) := by decide +kernel
theorem dX7_forgetOldest_20 : decode cX7_forgetOldest 20 = .ok (.invokestatic 31, 3) := by decide +kernel
theorem dX7_forgetOldest_23 : decode cX7_forgetOldest 23 = .ok (.aload_n 0, 1) := by decide +kernel
theorem dX7_forgetOldest_24 : decode cX7_forgetOldest 24 = .ok (.getfield 15, 3) := by decide +kernel
theorem dX7_forgetOldest_27 : decode cX7_forgetOldest 27 = .ok (.iconst 1, 1) := by decide +kernel
theorem dX7_forgetOldest_28 : decode cX7_forgetOldest 28 = .ok (.aload_n 0, 1) := by decide +kernel
theorem dX7_forgetOldest_29 : decode cX7_forgetOldest 29 = .ok (.getfield 15, 3) := by decide +kernel
theorem dX7_forgetOldest_32 : decode cX7_forgetOldest 32 = .ok (.iconst 0, 1) := by decide +kernel
theorem dX7_forgetOldest_33 : decode cX7_forgetOldest 33 = .ok (.aload_n 0, 1) := by decide +kernel
theorem dX7_forgetOldest_34 : decode cX7_forgetOldest 34 = .ok (.getfield 24, 3) := by decide +kernel
theorem dX7_forgetOldest_37 : decode cX7_forgetOldest 37 = .ok (.invokestatic 31, 3) := by decide +kernel
theorem dX7_forgetOldest_40 : decode cX7_forgetOldest 40 = .ok (.aload_n 0, 1) := by decide +kernel
theorem dX7_forgetOldest_41 : decode cX7_forgetOldest 41 = .ok (.getfield 18, 3) := by decide +kernel
theorem dX7_forgetOldest_44 : decode cX7_forgetOldest 44 = .ok (.iconst 1, 1) := by decide +kernel
theorem dX7_forgetOldest_45 : decode cX7_forgetOldest 45 = .ok (.aload_n 0, 1) := by decide +kernel
theorem dX7_forgetOldest_46 : decode cX7_forgetOldest 46 = .ok (.getfield 18, 3) := by decide +kernel
theorem dX7_forgetOldest_49 : decode cX7_forgetOldest 49 = .ok (.iconst 0, 1) := by decide +kernel
theorem dX7_forgetOldest_50 : decode cX7_forgetOldest 50 = .ok (.aload_n 0, 1) := by decide +kernel
theorem dX7_forgetOldest_51 : decode cX7_forgetOldest 51 = .ok (.getfield 24, 3) := by decide +kernel
theorem dX7_forgetOldest_54 : decode cX7_forgetOldest 54 = .ok (.invokestatic 31, 3) := by decide +kernel
theorem dX7_forgetOldest_57 : decode cX7_forgetOldest 57 = .ok (.aload_n 0, 1) := by decide +kernel
theorem dX7_forgetOldest_58 : decode cX7_forgetOldest 58 = .ok (.getfield 21, 3) := by decide +kernel
theorem dX7_forgetOldest_61 : decode cX7_forgetOldest 61 = .ok (.iconst 1, 1) := by decide +kernel
theorem dX7_forgetOldest_62 : decode cX7_forgetOldest 62 = .ok (.aload_n 0, 1) := by decide +kernel
theorem dX7_forgetOldest_63 : decode cX7_forgetOldest 63 = .ok (.getfield 21, 3) := by decide +kernel
theorem dX7_forgetOldest_66 : decode cX7_forgetOldest 66 = .ok (.iconst 0, 1) := by decide +kernel
theorem dX7_forgetOldest_67 : decode cX7_forgetOldest 67 = .ok (.aload_n 0, 1) := by decide +kernel
theorem dX7_forgetOldest_68 : decode cX7_forgetOldest 68 = .ok (.getfield 24, 3) := by decide +kernel
theorem dX7_forgetOldest_71 : decode cX7_forgetOldest 71 = .ok (.invokestatic 31, 3) := by decide +kernel
theorem dX7_forgetOldest_74 : decode cX7_forgetOldest 74 = .ok (.return_, 1) := by decide +kernel
theorem dX7_takeBack_0 : decode cX7_takeBack 0 = .ok (.aload_n 0, 1) := by decide +kernel
theorem dX7_takeBack_1 : decode cX7_takeBack 1 = .ok (.getfield 24, 3) := by decide +kernel
theorem dX7_takeBack_4 : decode cX7_takeBack 4 = .ok (.ifCond .gt 4, 3) := by decide +kernel
theorem dX7_takeBack_7 : decode cX7_takeBack 7 = .ok (.return_, 1) := by decide +kernel
theorem dX7_takeBack_8 : decode cX7_takeBack 8 = .ok (.aload_n 0, 1) := by decide +kernel
theorem dX7_takeBack_9 : decode cX7_takeBack 9 = .ok (.dup, 1) := by decide +kernel
theorem dX7_takeBack_10 : decode cX7_takeBack 10 = .ok (.getfield 24, 3) := by decide +kernel
theorem dX7_takeBack_13 : decode cX7_takeBack 13 = .ok (.iconst 1, 1) := by decide +kernel
theorem dX7_takeBack_14 : decode cX7_takeBack 14 = .ok (.isub, 1) := by decide +kernel
theorem dX7_takeBack_15 : decode cX7_takeBack 15 = .ok (.putfield 24, 3) := by decide +kernel
theorem dX7_takeBack_18 : decode cX7_takeBack 18 = .ok (.aload_n 0, 1) := by decide +kernel
theorem dX7_takeBack_19 : decode cX7_takeBack 19 = .ok (.getfield 15, 3) := by decide +kernel
theorem dX7_takeBack_22 : decode cX7_takeBack 22 = .ok (.aload_n 0, 1) := by decide +kernel
theorem dX7_takeBack_23 : decode cX7_takeBack 23 = .ok (.getfield 24, 3) := by decide +kernel
theorem dX7_takeBack_26 : decode cX7_takeBack 26 = .ok (.iaload, 1) := by decide +kernel
theorem dX7_takeBack_27 : decode cX7_takeBack 27 = .ok (.istore_n 2, 1) := by decide +kernel
theorem dX7_takeBack_28 : decode cX7_takeBack 28 = .ok (.aload_n 0, 1) := by decide +kernel
theorem dX7_takeBack_29 : decode cX7_takeBack 29 = .ok (.getfield 9, 3) := by decide +kernel
theorem dX7_takeBack_32 : decode cX7_takeBack 32 = .ok (.aload_n 0, 1) := by decide +kernel
theorem dX7_takeBack_33 : decode cX7_takeBack 33 = .ok (.getfield 24, 3) := by decide +kernel
theorem dX7_takeBack_36 : decode cX7_takeBack 36 = .ok (.iaload, 1) := by decide +kernel
theorem dX7_takeBack_37 : decode cX7_takeBack 37 = .ok (.lookupswitch 71 #[(0, 27), (1, 45)], 27) := by decide +kernel
theorem dX7_takeBack_64 : decode cX7_takeBack 64 = .ok (.aload_n 1, 1) := by decide +kernel
theorem dX7_takeBack_65 : decode cX7_takeBack 65 = .ok (.getfield 37, 3) := by decide +kernel
theorem dX7_takeBack_68 : decode cX7_takeBack 68 = .ok (.iload_n 2, 1) := by decide +kernel
theorem dX7_takeBack_69 : decode cX7_takeBack 69 = .ok (.aload_n 0, 1) := by decide +kernel
theorem dX7_takeBack_70 : decode cX7_takeBack 70 = .ok (.getfield 21, 3) := by decide +kernel
theorem dX7_takeBack_73 : decode cX7_takeBack 73 = .ok (.aload_n 0, 1) := by decide +kernel
theorem dX7_takeBack_74 : decode cX7_takeBack 74 = .ok (.getfield 24, 3) := by decide +kernel
theorem dX7_takeBack_77 : decode cX7_takeBack 77 = .ok (.iaload, 1) := by decide +kernel
theorem dX7_takeBack_78 : decode cX7_takeBack 78 = .ok (.iastore, 1) := by decide +kernel
theorem dX7_takeBack_79 : decode cX7_takeBack 79 = .ok (.goto 44, 3) := by decide +kernel
theorem dX7_takeBack_82 : decode cX7_takeBack 82 = .ok (.aload_n 1, 1) := by decide +kernel
theorem dX7_takeBack_83 : decode cX7_takeBack 83 = .ok (.iload_n 2, 1) := by decide +kernel
theorem dX7_takeBack_84 : decode cX7_takeBack 84 = .ok (.aload_n 0, 1) := by decide +kernel
theorem dX7_takeBack_85 : decode cX7_takeBack 85 = .ok (.getfield 18, 3) := by decide +kernel
theorem dX7_takeBack_88 : decode cX7_takeBack 88 = .ok (.aload_n 0, 1) := by decide +kernel
theorem dX7_takeBack_89 : decode cX7_takeBack 89 = .ok (.getfield 24, 3) := by decide +kernel
theorem dX7_takeBack_92 : decode cX7_takeBack 92 = .ok (.iaload, 1) := by decide +kernel
theorem dX7_takeBack_93 : decode cX7_takeBack 93 = .ok (.aload_n 0, 1) := by decide +kernel
theorem dX7_takeBack_94 : decode cX7_takeBack 94 = .ok (.getfield 21, 3) := by decide +kernel
theorem dX7_takeBack_97 : decode cX7_takeBack 97 = .ok (.aload_n 0, 1) := by decide +kernel
theorem dX7_takeBack_98 : decode cX7_takeBack 98 = .ok (.getfield 24, 3) := by decide +kernel
theorem dX7_takeBack_101 : decode cX7_takeBack 101 = .ok (.iaload, 1) := by decide +kernel
theorem dX7_takeBack_102 : decode cX7_takeBack 102 = .ok (.invokevirtual 42, 3) := by decide +kernel
theorem dX7_takeBack_105 : decode cX7_takeBack 105 = .ok (.goto 18, 3) := by decide +kernel
theorem dX7_takeBack_108 : decode cX7_takeBack 108 = .ok (.aload_n 1, 1) := by decide +kernel
theorem dX7_takeBack_109 : decode cX7_takeBack 109 = .ok (.getfield 46, 3) := by decide +kernel
theorem dX7_takeBack_112 : decode cX7_takeBack 112 = .ok (.iload_n 2, 1) := by decide +kernel
theorem dX7_takeBack_113 : decode cX7_takeBack 113 = .ok (.aload_n 0, 1) := by decide +kernel
theorem dX7_takeBack_114 : decode cX7_takeBack 114 = .ok (.getfield 21, 3) := by decide +kernel
theorem dX7_takeBack_117 : decode cX7_takeBack 117 = .ok (.aload_n 0, 1) := by decide +kernel
theorem dX7_takeBack_118 : decode cX7_takeBack 118 = .ok (.getfield 24, 3) := by decide +kernel
theorem dX7_takeBack_121 : decode cX7_takeBack 121 = .ok (.iaload, 1) := by decide +kernel
theorem dX7_takeBack_122 : decode cX7_takeBack 122 = .ok (.iastore, 1) := by decide +kernel
theorem dX7_takeBack_123 : decode cX7_takeBack 123 = .ok (.return_, 1) := by decide +kernel
theorem tr_relupd {a b : Nat → Int32} {k : Nat} {x y : Int32} (h : ∀ j : Nat, a j = 0 → -1 ≤ (b j).toInt ∧ (b j).toInt ≤ 2) (hx : x = 0 → -1 ≤ y.toInt ∧ y.toInt ≤ 2) : ∀ j : Nat, upd a k x j = 0 → -1 ≤ (upd b k y j).toInt ∧ (upd b k y j).toInt ≤ 2 := by
  intro j
  unfold upd
  by_cases e : j = k
  · rw [if_pos e, if_pos e]; exact hx
  · rw [if_neg e, if_neg e]; exact h j
theorem tr_relcpy {a b : Nat → Int32} {sp dp n : Nat} (h : ∀ j : Nat, a j = 0 → -1 ≤ (b j).toInt ∧ (b j).toInt ≤ 2) : ∀ j : Nat, va_cpy a a sp dp n j = 0 → -1 ≤ (va_cpy b b sp dp n j).toInt ∧ (va_cpy b b sp dp n j).toInt ≤ 2 := by
  intro j
  unfold va_cpy
  by_cases e : dp ≤ j ∧ j < dp + n
  · rw [if_pos e, if_pos e]; exact h _
  · rw [if_neg e, if_neg e]; exact h j
theorem cpy_sh {f g : Nat → Int32} (e : g = va_cpy f f 1 0 7) : ∀ j : Nat, j < 7 → g j = f (j + 1) := fun j hj => by
  rw [e]; unfold va_cpy
  rw [if_pos (by omega), show 1 + (j - 0) = j + 1 by omega]
theorem pus_a {c c' : Int} {w w' : Nat → Int32} {x : Int32} {i : Nat} (e : w' = upd w i x) (hi : i = c.toNat) (c0 : 0 ≤ c) (h8 : c < 8) (h1 : c' = c + 1) : PUs c c' w w' x := by
  subst hi
  exact ⟨fun _ => ⟨h1, fun j hj => by rw [e, upd_ne _ _ (by omega)], by rw [e, upd_at]⟩, fun h => by omega⟩
theorem pus_b {c c' : Int} {w v w' : Nat → Int32} {x : Int32} {i : Nat} (h : ∀ j : Nat, j < 7 → v j = w (j + 1)) (e : w' = upd v i x) (hi : i = 7) (h8 : 8 ≤ c) (h1 : c' = 8) : PUs c c' w w' x := by
  subst hi
  exact ⟨fun q => by omega, fun _ => ⟨h1, fun j hj => by rw [e, upd_ne _ _ (by omega)]; exact h j hj, by rw [e, upd_at]⟩⟩
set_option maxHeartbeats 4000000 in
set_option maxRecDepth 100000 in
theorem c_X7_forgetOldest (l : Launch) (D : va_G) (g : Nat → ClassId) (sz : Nat) (st : Nat) (st_what : Nat) (st_node : Nat) (st_index : Nat) (st_before : Nat) (stc : Int32) (stw : Nat → Int32) (stn : Nat → Int32) (sti : Nat → Int32) (stb : Nat → Int32) (h_stc : 0 ≤ (stc : Int32).toInt ∧ (stc : Int32).toInt ≤ 8) (h_stw : ∀ j : Nat, 0 ≤ (stw j).toInt ∧ (stw j).toInt ≤ 2) (h_stn : ∀ j : Nat, 0 ≤ (stn j).toInt ∧ (stn j).toInt ≤ 11) (h_sti : ∀ j : Nat, 0 ≤ (sti j).toInt ∧ (sti j).toInt ≤ 2) (hrel : ∀ j : Nat, stw j = 0 → -1 ≤ (stb j).toInt ∧ (stb j).toInt ≤ 2) : Met l yX7_forgetOldest (.code yX7_forgetOldest cX7_forgetOldest 1 none :: wsL_law) ({ frames := 1, cells := 0, slots := 0, locals := 60 }) (va_Pc [.ref st] (fun U => U.heap.size = sz ∧ va_P D vwCl [(st, .inr (7, [.ref st_what, .ref st_node, .ref st_index, .ref st_before, .int stc])), (st_what, .inl (g 0, 8, .inl stw)), (st_node, .inl (g 0, 8, .inl stn)), (st_index, .inl (g 0, 8, .inl sti)), (st_before, .inl (g 0, 8, .inl stb))] U.heap ∧ va_K D vwCl (TY g) U ∧ va_D (fun _ => True) [(st, .inr (7, [.ref st_what, .ref st_node, .ref st_index, .ref st_before, .int stc])), (st_what, .inl (g 0, 8, .inl stw)), (st_node, .inl (g 0, 8, .inl stn)), (st_index, .inl (g 0, 8, .inl sti)), (st_before, .inl (g 0, 8, .inl stb))])) (va_Qv (fun (_ : Unit) => True) (fun _ t => ∃ ostw : Nat → Int32, ∃ ostn : Nat → Int32, ∃ osti : Nat → Int32, ∃ ostb : Nat → Int32, (∀ j : Nat, 0 ≤ (ostw j).toInt ∧ (ostw j).toInt ≤ 2) ∧ (∀ j : Nat, 0 ≤ (ostn j).toInt ∧ (ostn j).toInt ≤ 11) ∧ (∀ j : Nat, 0 ≤ (osti j).toInt ∧ (osti j).toInt ≤ 2) ∧ (∀ j : Nat, ostw j = 0 → -1 ≤ (ostb j).toInt ∧ (ostb j).toInt ≤ 2) ∧ (∀ j : Nat, j < 7 → ostw j = stw (j + 1)) ∧ (∀ j : Nat, j < 7 → ostn j = stn (j + 1)) ∧ (∀ j : Nat, j < 7 → osti j = sti (j + 1)) ∧ (∀ j : Nat, j < 7 → ostb j = stb (j + 1)) ∧ va_P D vwCl [(st, .inr (7, [.ref st_what, .ref st_node, .ref st_index, .ref st_before, .int 7])), (st_what, .inl (g 0, 8, .inl ostw)), (st_node, .inl (g 0, 8, .inl ostn)), (st_index, .inl (g 0, 8, .inl osti)), (st_before, .inl (g 0, 8, .inl ostb))] t.heap ∧ va_D (va_A [(st, .inr (7, [.ref st_what, .ref st_node, .ref st_index, .ref st_before, .int stc])), (st_what, .inl (g 0, 8, .inl stw)), (st_node, .inl (g 0, 8, .inl stn)), (st_index, .inl (g 0, 8, .inl sti)), (st_before, .inl (g 0, 8, .inl stb))] sz) [(st, .inr (7, [.ref st_what, .ref st_node, .ref st_index, .ref st_before, .int 7])), (st_what, .inl (g 0, 8, .inl ostw)), (st_node, .inl (g 0, 8, .inl ostn)), (st_index, .inl (g 0, 8, .inl osti)), (st_before, .inl (g 0, 8, .inl ostb))]) (va_A [(st, .inr (7, [.ref st_what, .ref st_node, .ref st_index, .ref st_before, .int stc])), (st_what, .inl (g 0, 8, .inl stw)), (st_node, .inl (g 0, 8, .inl stn)), (st_index, .inl (g 0, 8, .inl sti)), (st_before, .inl (g 0, 8, .inl stb))] sz)) 0 0 (va_A [(st, .inr (7, [.ref st_what, .ref st_node, .ref st_index, .ref st_before, .int stc])), (st_what, .inl (g 0, 8, .inl stw)), (st_node, .inl (g 0, 8, .inl stn)), (st_index, .inl (g 0, 8, .inl sti)), (st_before, .inl (g 0, 8, .inl stb))] sz) := by
  refine Met.ofW (cc := cX7_forgetOldest) (maxL := 1) (ret := none) (by decide) rfl ?_
  intro p e s m args below meth c s₁ B hml hv
  obtain ⟨ha, hsz, hP, hK, hD0⟩ := hv
  have hx := B.exec
  have hb := B.bytes
  have hr := B.returns
  have hts0 := atoms_spec (ws := (.code yX7_forgetOldest cX7_forgetOldest 1 none :: wsL_law)) B.pre
  have hts : ∀ w ∈ wsL_law, w.before args s = true := fun w h => hts0 w (List.mem_cons_of_mem _ h)
  have hown : s.vm.findClass RX7 = some m.cls := findClass_of_methodNamed B.named
  have hlocks := B.notSynchronized
  subst hsz
  have hD := hD0.self (sz := s.heap.size)
  generalize hAe : va_A [(st, .inr (7, [.ref st_what, .ref st_node, .ref st_index, .ref st_before, .int stc])), (st_what, .inl (g 0, 8, .inl stw)), (st_node, .inl (g 0, 8, .inl stn)), (st_index, .inl (g 0, 8, .inl sti)), (st_before, .inl (g 0, 8, .inl stb))] s.heap.size = A at hD ⊢
  have hA : ∀ q : Nat, s.heap.size ≤ q → A q := fun q h => by rw [← hAe]; exact Or.inr h
  have hS : va_S A s.heap s.heap [] := va_S.rf
  have hP : va_P D vwCl [(st, .inr (7, [.ref st_what, .ref st_node, .ref st_index, .ref st_before, .int stc])), (st_what, .inl (g 0, 8, .inl stw)), (st_node, .inl (g 0, 8, .inl stn)), (st_index, .inl (g 0, 8, .inl sti)), (st_before, .inl (g 0, 8, .inl stb))] s.heap := hP
  refine W.eq (g2 := entryFrame m ([.ref st] : List Value).toArray 1) (by rw [ha]) ?_
  have hl := lv_entry ([.ref st]) (n := 1) (Nat.le_of_ble_eq_true rfl)
  rw [lg_entry_eq]
  generalize (lg_sl ([.ref st]) ++ List.replicate (1 - (lg_sl ([.ref st])).length) Slot.unset).toArray = ls at hl ⊢
  have hl : lv_has ls 1 [(0, .ref st)] := hl
  refine lv_aload_n hx hb dX7_forgetOldest_0 rfl (lv_at hl 0 rfl) ?_
  refine lv_bipush (v := 7) hx hb dX7_forgetOldest_1 (by decide) ?_
  refine va_put (D := D) (ci := 7) (v := .int 7) (ty := .int) (C := RX7) (T := TX7) (N := 5) hx hb hts inlX7 tyX7 tyX7_ok nmX7 hown hK hP hD hS 0 rfl rfl 4 (by decide) (hts (Cond.fieldLink RX7 24 "ChanceRings$Steps" "count" "I") qw_619) (fun _ h9 => h9) rfl (by decide +kernel) rfl rfl (Nat.le_of_ble_eq_true rfl) dX7_forgetOldest_3 (fun H locs hP hD hS => ?_)
  have hP : va_P D vwCl [(st, .inr (7, [.ref st_what, .ref st_node, .ref st_index, .ref st_before, .int 7])), (st_what, .inl (g 0, 8, .inl stw)), (st_node, .inl (g 0, 8, .inl stn)), (st_index, .inl (g 0, 8, .inl sti)), (st_before, .inl (g 0, 8, .inl stb))] H := hP
  have hD : va_D A [(st, .inr (7, [.ref st_what, .ref st_node, .ref st_index, .ref st_before, .int 7])), (st_what, .inl (g 0, 8, .inl stw)), (st_node, .inl (g 0, 8, .inl stn)), (st_index, .inl (g 0, 8, .inl sti)), (st_before, .inl (g 0, 8, .inl stb))] := hD
  refine lv_aload_n hx hb dX7_forgetOldest_6 rfl (lv_at hl 0 rfl) ?_
  refine va_get (D := D) (ci := 7) (v := .ref st_what) (C := RX7) (T := TX7) (N := 5) hx hb hts inlX7 hown hK hP 0 rfl rfl 0 (by decide) (hts (Cond.fieldLink RX7 9 "ChanceRings$Steps" "what" "[I") qw_620) (fun _ h9 => h9) rfl dX7_forgetOldest_7 ?_
  refine lv_iconst (v := 1) hx hb dX7_forgetOldest_10 (by decide) ?_
  refine lv_aload_n hx hb dX7_forgetOldest_11 rfl (lv_at hl 0 rfl) ?_
  refine va_get (D := D) (ci := 7) (v := .ref st_what) (C := RX7) (T := TX7) (N := 5) hx hb hts inlX7 hown hK hP 0 rfl rfl 0 (by decide) (hts (Cond.fieldLink RX7 9 "ChanceRings$Steps" "what" "[I") qw_620) (fun _ h9 => h9) rfl dX7_forgetOldest_12 ?_
  refine lv_iconst (v := 0) hx hb dX7_forgetOldest_15 (by decide) ?_
  refine lv_aload_n hx hb dX7_forgetOldest_16 rfl (lv_at hl 0 rfl) ?_
  refine va_get (D := D) (ci := 7) (v := .int 7) (C := RX7) (T := TX7) (N := 5) hx hb hts inlX7 hown hK hP 0 rfl rfl 4 (by decide) (hts (Cond.fieldLink RX7 24 "ChanceRings$Steps" "count" "I") qw_619) (fun _ h9 => h9) rfl dX7_forgetOldest_17 ?_
  refine va_copyi (ty := .int) hx hb (by rw [hml]; exact hl.1.symm) hown (hts (Cond.methodLink RX7 31 arraycopyName) qw_621) (hts (Cond.native arraycopyName) qw_343) (hts (Cond.static arraycopyName) qw_344) (hts (Cond.initialized "java/lang/System") qw_345) hK hP hD hS 1 1 0 0 rfl rfl rfl rfl rfl (by decide) (by decide) (by decide) (by decide +kernel) (by decide +kernel) (fun _ _ => rfl) (Nat.le_of_ble_eq_true rfl) (Nat.le_of_ble_eq_true rfl) dX7_forgetOldest_20 (fun H locs hP hD hS => ?_)
  obtain ⟨f_95530, f_95530_e, h_f_95530, hP, hD⟩ : ∃ FX : Nat → Int32, FX = va_cpy stw stw 1 0 7 ∧ (∀ j : Nat, 0 ≤ (FX j).toInt ∧ (FX j).toInt ≤ 2) ∧ va_P D vwCl [(st, .inr (7, [.ref st_what, .ref st_node, .ref st_index, .ref st_before, .int 7])), (st_what, .inl (g 0, 8, .inl FX)), (st_node, .inl (g 0, 8, .inl stn)), (st_index, .inl (g 0, 8, .inl sti)), (st_before, .inl (g 0, 8, .inl stb))] H ∧ va_D A [(st, .inr (7, [.ref st_what, .ref st_node, .ref st_index, .ref st_before, .int 7])), (st_what, .inl (g 0, 8, .inl FX)), (st_node, .inl (g 0, 8, .inl stn)), (st_index, .inl (g 0, 8, .inl sti)), (st_before, .inl (g 0, 8, .inl stb))] := ⟨_, rfl, tr_cpy (tr_wa h_stw (by decide) (by decide)) h_stw, hP, hD⟩
  have hP : va_P D vwCl [(st, .inr (7, [.ref st_what, .ref st_node, .ref st_index, .ref st_before, .int 7])), (st_what, .inl (g 0, 8, .inl f_95530)), (st_node, .inl (g 0, 8, .inl stn)), (st_index, .inl (g 0, 8, .inl sti)), (st_before, .inl (g 0, 8, .inl stb))] H := hP
  have hD : va_D A [(st, .inr (7, [.ref st_what, .ref st_node, .ref st_index, .ref st_before, .int 7])), (st_what, .inl (g 0, 8, .inl f_95530)), (st_node, .inl (g 0, 8, .inl stn)), (st_index, .inl (g 0, 8, .inl sti)), (st_before, .inl (g 0, 8, .inl stb))] := hD
  refine lv_aload_n hx hb dX7_forgetOldest_23 rfl (lv_at hl 0 rfl) ?_
  refine va_get (D := D) (ci := 7) (v := .ref st_node) (C := RX7) (T := TX7) (N := 5) hx hb hts inlX7 hown hK hP 0 rfl rfl 1 (by decide) (hts (Cond.fieldLink RX7 15 "ChanceRings$Steps" "node" "[I") qw_622) (fun _ h9 => h9) rfl dX7_forgetOldest_24 ?_
  refine lv_iconst (v := 1) hx hb dX7_forgetOldest_27 (by decide) ?_
  refine lv_aload_n hx hb dX7_forgetOldest_28 rfl (lv_at hl 0 rfl) ?_
  refine va_get (D := D) (ci := 7) (v := .ref st_node) (C := RX7) (T := TX7) (N := 5) hx hb hts inlX7 hown hK hP 0 rfl rfl 1 (by decide) (hts (Cond.fieldLink RX7 15 "ChanceRings$Steps" "node" "[I") qw_622) (fun _ h9 => h9) rfl dX7_forgetOldest_29 ?_
  refine lv_iconst (v := 0) hx hb dX7_forgetOldest_32 (by decide) ?_
  refine lv_aload_n hx hb dX7_forgetOldest_33 rfl (lv_at hl 0 rfl) ?_
  refine va_get (D := D) (ci := 7) (v := .int 7) (C := RX7) (T := TX7) (N := 5) hx hb hts inlX7 hown hK hP 0 rfl rfl 4 (by decide) (hts (Cond.fieldLink RX7 24 "ChanceRings$Steps" "count" "I") qw_619) (fun _ h9 => h9) rfl dX7_forgetOldest_34 ?_
  refine va_copyi (ty := .int) hx hb (by rw [hml]; exact hl.1.symm) hown (hts (Cond.methodLink RX7 31 arraycopyName) qw_621) (hts (Cond.native arraycopyName) qw_343) (hts (Cond.static arraycopyName) qw_344) (hts (Cond.initialized "java/lang/System") qw_345) hK hP hD hS 2 2 0 0 rfl rfl rfl rfl rfl (by decide) (by decide) (by decide) (by decide +kernel) (by decide +kernel) (fun _ _ => rfl) (Nat.le_of_ble_eq_true rfl) (Nat.le_of_ble_eq_true rfl) dX7_forgetOldest_37 (fun H locs hP hD hS => ?_)
  obtain ⟨f_95531, f_95531_e, h_f_95531, hP, hD⟩ : ∃ FX : Nat → Int32, FX = va_cpy stn stn 1 0 7 ∧ (∀ j : Nat, 0 ≤ (FX j).toInt ∧ (FX j).toInt ≤ 11) ∧ va_P D vwCl [(st, .inr (7, [.ref st_what, .ref st_node, .ref st_index, .ref st_before, .int 7])), (st_what, .inl (g 0, 8, .inl f_95530)), (st_node, .inl (g 0, 8, .inl FX)), (st_index, .inl (g 0, 8, .inl sti)), (st_before, .inl (g 0, 8, .inl stb))] H ∧ va_D A [(st, .inr (7, [.ref st_what, .ref st_node, .ref st_index, .ref st_before, .int 7])), (st_what, .inl (g 0, 8, .inl f_95530)), (st_node, .inl (g 0, 8, .inl FX)), (st_index, .inl (g 0, 8, .inl sti)), (st_before, .inl (g 0, 8, .inl stb))] := ⟨_, rfl, tr_cpy (tr_wa h_stn (by decide) (by decide)) h_stn, hP, hD⟩
  have hP : va_P D vwCl [(st, .inr (7, [.ref st_what, .ref st_node, .ref st_index, .ref st_before, .int 7])), (st_what, .inl (g 0, 8, .inl f_95530)), (st_node, .inl (g 0, 8, .inl f_95531)), (st_index, .inl (g 0, 8, .inl sti)), (st_before, .inl (g 0, 8, .inl stb))] H := hP
  have hD : va_D A [(st, .inr (7, [.ref st_what, .ref st_node, .ref st_index, .ref st_before, .int 7])), (st_what, .inl (g 0, 8, .inl f_95530)), (st_node, .inl (g 0, 8, .inl f_95531)), (st_index, .inl (g 0, 8, .inl sti)), (st_before, .inl (g 0, 8, .inl stb))] := hD
  refine lv_aload_n hx hb dX7_forgetOldest_40 rfl (lv_at hl 0 rfl) ?_
  refine va_get (D := D) (ci := 7) (v := .ref st_index) (C := RX7) (T := TX7) (N := 5) hx hb hts inlX7 hown hK hP 0 rfl rfl 2 (by decide) (hts (Cond.fieldLink RX7 18 "ChanceRings$Steps" "index" "[I") qw_623) (fun _ h9 => h9) rfl dX7_forgetOldest_41 ?_
  refine lv_iconst (v := 1) hx hb dX7_forgetOldest_44 (by decide) ?_
  refine lv_aload_n hx hb dX7_forgetOldest_45 rfl (lv_at hl 0 rfl) ?_
  refine va_get (D := D) (ci := 7) (v := .ref st_index) (C := RX7) (T := TX7) (N := 5) hx hb hts inlX7 hown hK hP 0 rfl rfl 2 (by decide) (hts (Cond.fieldLink RX7 18 "ChanceRings$Steps" "index" "[I") qw_623) (fun _ h9 => h9) rfl dX7_forgetOldest_46 ?_
  refine lv_iconst (v := 0) hx hb dX7_forgetOldest_49 (by decide) ?_
  refine lv_aload_n hx hb dX7_forgetOldest_50 rfl (lv_at hl 0 rfl) ?_
  refine va_get (D := D) (ci := 7) (v := .int 7) (C := RX7) (T := TX7) (N := 5) hx hb hts inlX7 hown hK hP 0 rfl rfl 4 (by decide) (hts (Cond.fieldLink RX7 24 "ChanceRings$Steps" "count" "I") qw_619) (fun _ h9 => h9) rfl dX7_forgetOldest_51 ?_
  refine va_copyi (ty := .int) hx hb (by rw [hml]; exact hl.1.symm) hown (hts (Cond.methodLink RX7 31 arraycopyName) qw_621) (hts (Cond.native arraycopyName) qw_343) (hts (Cond.static arraycopyName) qw_344) (hts (Cond.initialized "java/lang/System") qw_345) hK hP hD hS 3 3 0 0 rfl rfl rfl rfl rfl (by decide) (by decide) (by decide) (by decide +kernel) (by decide +kernel) (fun _ _ => rfl) (Nat.le_of_ble_eq_true rfl) (Nat.le_of_ble_eq_true rfl) dX7_forgetOldest_54 (fun H locs hP hD hS => ?_)
  obtain ⟨f_95532, f_95532_e, h_f_95532, hP, hD⟩ : ∃ FX : Nat → Int32, FX = va_cpy sti sti 1 0 7 ∧ (∀ j : Nat, 0 ≤ (FX j).toInt ∧ (FX j).toInt ≤ 2) ∧ va_P D vwCl [(st, .inr (7, [.ref st_what, .ref st_node, .ref st_index, .ref st_before, .int 7])), (st_what, .inl (g 0, 8, .inl f_95530)), (st_node, .inl (g 0, 8, .inl f_95531)), (st_index, .inl (g 0, 8, .inl FX)), (st_before, .inl (g 0, 8, .inl stb))] H ∧ va_D A [(st, .inr (7, [.ref st_what, .ref st_node, .ref st_index, .ref st_before, .int 7])), (st_what, .inl (g 0, 8, .inl f_95530)), (st_node, .inl (g 0, 8, .inl f_95531)), (st_index, .inl (g 0, 8, .inl FX)), (st_before, .inl (g 0, 8, .inl stb))] := ⟨_, rfl, tr_cpy (tr_wa h_sti (by decide) (by decide)) h_sti, hP, hD⟩
  have hP : va_P D vwCl [(st, .inr (7, [.ref st_what, .ref st_node, .ref st_index, .ref st_before, .int 7])), (st_what, .inl (g 0, 8, .inl f_95530)), (st_node, .inl (g 0, 8, .inl f_95531)), (st_index, .inl (g 0, 8, .inl f_95532)), (st_before, .inl (g 0, 8, .inl stb))] H := hP
  have hD : va_D A [(st, .inr (7, [.ref st_what, .ref st_node, .ref st_index, .ref st_before, .int 7])), (st_what, .inl (g 0, 8, .inl f_95530)), (st_node, .inl (g 0, 8, .inl f_95531)), (st_index, .inl (g 0, 8, .inl f_95532)), (st_before, .inl (g 0, 8, .inl stb))] := hD
  refine lv_aload_n hx hb dX7_forgetOldest_57 rfl (lv_at hl 0 rfl) ?_
  refine va_get (D := D) (ci := 7) (v := .ref st_before) (C := RX7) (T := TX7) (N := 5) hx hb hts inlX7 hown hK hP 0 rfl rfl 3 (by decide) (hts (Cond.fieldLink RX7 21 "ChanceRings$Steps" "before" "[I") qw_624) (fun _ h9 => h9) rfl dX7_forgetOldest_58 ?_
  refine lv_iconst (v := 1) hx hb dX7_forgetOldest_61 (by decide) ?_
  refine lv_aload_n hx hb dX7_forgetOldest_62 rfl (lv_at hl 0 rfl) ?_
  refine va_get (D := D) (ci := 7) (v := .ref st_before) (C := RX7) (T := TX7) (N := 5) hx hb hts inlX7 hown hK hP 0 rfl rfl 3 (by decide) (hts (Cond.fieldLink RX7 21 "ChanceRings$Steps" "before" "[I") qw_624) (fun _ h9 => h9) rfl dX7_forgetOldest_63 ?_
  refine lv_iconst (v := 0) hx hb dX7_forgetOldest_66 (by decide) ?_
  refine lv_aload_n hx hb dX7_forgetOldest_67 rfl (lv_at hl 0 rfl) ?_
  refine va_get (D := D) (ci := 7) (v := .int 7) (C := RX7) (T := TX7) (N := 5) hx hb hts inlX7 hown hK hP 0 rfl rfl 4 (by decide) (hts (Cond.fieldLink RX7 24 "ChanceRings$Steps" "count" "I") qw_619) (fun _ h9 => h9) rfl dX7_forgetOldest_68 ?_
  refine va_copyi (ty := .int) hx hb (by rw [hml]; exact hl.1.symm) hown (hts (Cond.methodLink RX7 31 arraycopyName) qw_621) (hts (Cond.native arraycopyName) qw_343) (hts (Cond.static arraycopyName) qw_344) (hts (Cond.initialized "java/lang/System") qw_345) hK hP hD hS 4 4 0 0 rfl rfl rfl rfl rfl (by decide) (by decide) (by decide) (by decide +kernel) (by decide +kernel) (fun _ _ => rfl) (Nat.le_of_ble_eq_true rfl) (Nat.le_of_ble_eq_true rfl) dX7_forgetOldest_71 (fun H locs hP hD hS => ?_)
  obtain ⟨f_95533, f_95533_e, hP, hD⟩ : ∃ FX : Nat → Int32, FX = va_cpy stb stb 1 0 7 ∧ va_P D vwCl [(st, .inr (7, [.ref st_what, .ref st_node, .ref st_index, .ref st_before, .int 7])), (st_what, .inl (g 0, 8, .inl f_95530)), (st_node, .inl (g 0, 8, .inl f_95531)), (st_index, .inl (g 0, 8, .inl f_95532)), (st_before, .inl (g 0, 8, .inl FX))] H ∧ va_D A [(st, .inr (7, [.ref st_what, .ref st_node, .ref st_index, .ref st_before, .int 7])), (st_what, .inl (g 0, 8, .inl f_95530)), (st_node, .inl (g 0, 8, .inl f_95531)), (st_index, .inl (g 0, 8, .inl f_95532)), (st_before, .inl (g 0, 8, .inl FX))] := ⟨_, rfl, hP, hD⟩
  have hP : va_P D vwCl [(st, .inr (7, [.ref st_what, .ref st_node, .ref st_index, .ref st_before, .int 7])), (st_what, .inl (g 0, 8, .inl f_95530)), (st_node, .inl (g 0, 8, .inl f_95531)), (st_index, .inl (g 0, 8, .inl f_95532)), (st_before, .inl (g 0, 8, .inl f_95533))] H := hP
  have hD : va_D A [(st, .inr (7, [.ref st_what, .ref st_node, .ref st_index, .ref st_before, .int 7])), (st_what, .inl (g 0, 8, .inl f_95530)), (st_node, .inl (g 0, 8, .inl f_95531)), (st_index, .inl (g 0, 8, .inl f_95532)), (st_before, .inl (g 0, 8, .inl f_95533))] := hD
  have hP9 := hP.sub (ws' := [(st, .inr (7, [.ref st_what, .ref st_node, .ref st_index, .ref st_before, .int 7])), (st_what, .inl (g 0, 8, .inl f_95530)), (st_node, .inl (g 0, 8, .inl f_95531)), (st_index, .inl (g 0, 8, .inl f_95532)), (st_before, .inl (g 0, 8, .inl f_95533))]) [0, 1, 2, 3, 4] rfl
  have hD9 := hD.sub (ws' := [(st, .inr (7, [.ref st_what, .ref st_node, .ref st_index, .ref st_before, .int 7])), (st_what, .inl (g 0, 8, .inl f_95530)), (st_node, .inl (g 0, 8, .inl f_95531)), (st_index, .inl (g 0, 8, .inl f_95532)), (st_before, .inl (g 0, 8, .inl f_95533))]) [0, 1, 2, 3, 4] (by decide) rfl
  exact W.vret hx hb hr (fun t ht hW => ⟨⟨(), rfl, trivial, f_95530, f_95531, f_95532, f_95533, (tr_wa h_f_95530 (by decide) (by decide)), (tr_wa h_f_95531 (by decide) (by decide)), (tr_wa h_f_95532 (by decide) (by decide)), (by rw [f_95530_e, f_95533_e]; exact tr_relcpy hrel), (cpy_sh f_95530_e), (cpy_sh f_95531_e), (cpy_sh f_95532_e), (cpy_sh f_95533_e), by rw [ht]; exact hP9, hD9⟩, hS.F ht⟩) hS.2.2 dX7_forgetOldest_74
set_option maxHeartbeats 4000000 in
set_option maxRecDepth 100000 in
theorem c_X7_add0 (l : Launch) (D : va_G) (g : Nat → ClassId) (sz : Nat) (st : Nat) (p1 : Int32) (p2 : Int32) (p3 : Int32) (st_what : Nat) (st_node : Nat) (st_index : Nat) (st_before : Nat) (stc : Int32) (stw : Nat → Int32) (stn : Nat → Int32) (sti : Nat → Int32) (stb : Nat → Int32) (h_p1 : 0 ≤ (p1 : Int32).toInt ∧ (p1 : Int32).toInt ≤ 11) (h_p2 : 0 ≤ (p2 : Int32).toInt ∧ (p2 : Int32).toInt ≤ 2) (h_p3 : (-1) ≤ (p3 : Int32).toInt ∧ (p3 : Int32).toInt ≤ 2) (h_stc : 0 ≤ (stc : Int32).toInt ∧ (stc : Int32).toInt ≤ 8) (h_stw : ∀ j : Nat, 0 ≤ (stw j).toInt ∧ (stw j).toInt ≤ 2) (h_stn : ∀ j : Nat, 0 ≤ (stn j).toInt ∧ (stn j).toInt ≤ 11) (h_sti : ∀ j : Nat, 0 ≤ (sti j).toInt ∧ (sti j).toInt ≤ 2) (hrel : ∀ j : Nat, stw j = 0 → -1 ≤ (stb j).toInt ∧ (stb j).toInt ≤ 2) : Met l yX7_add (.code yX7_add cX7_add 5 none :: wsL_law) ({ frames := 2, cells := 0, slots := 0, locals := 80 }) (va_Pc [.ref st, .int 0, .int p1, .int p2, .int p3] (fun U => U.heap.size = sz ∧ va_P D vwCl [(st, .inr (7, [.ref st_what, .ref st_node, .ref st_index, .ref st_before, .int stc])), (st_what, .inl (g 0, 8, .inl stw)), (st_node, .inl (g 0, 8, .inl stn)), (st_index, .inl (g 0, 8, .inl sti)), (st_before, .inl (g 0, 8, .inl stb))] U.heap ∧ va_K D vwCl (TY g) U ∧ va_D (fun _ => True) [(st, .inr (7, [.ref st_what, .ref st_node, .ref st_index, .ref st_before, .int stc])), (st_what, .inl (g 0, 8, .inl stw)), (st_node, .inl (g 0, 8, .inl stn)), (st_index, .inl (g 0, 8, .inl sti)), (st_before, .inl (g 0, 8, .inl stb))])) (va_Qv (fun (_ : Unit) => True) (fun _ t => ∃ ostc : Int32, ∃ ostw : Nat → Int32, ∃ ostn : Nat → Int32, ∃ osti : Nat → Int32, ∃ ostb : Nat → Int32, (0 ≤ (ostc : Int32).toInt ∧ (ostc : Int32).toInt ≤ 8) ∧ (∀ j : Nat, 0 ≤ (ostw j).toInt ∧ (ostw j).toInt ≤ 2) ∧ (∀ j : Nat, 0 ≤ (ostn j).toInt ∧ (ostn j).toInt ≤ 11) ∧ (∀ j : Nat, 0 ≤ (osti j).toInt ∧ (osti j).toInt ≤ 2) ∧ (∀ j : Nat, ostw j = 0 → -1 ≤ (ostb j).toInt ∧ (ostb j).toInt ≤ 2) ∧ (PUs (stc : Int32).toInt (ostc : Int32).toInt stw ostw (0 : Int32)) ∧ (PUs (stc : Int32).toInt (ostc : Int32).toInt stn ostn p1) ∧ (PUs (stc : Int32).toInt (ostc : Int32).toInt sti osti p2) ∧ (PUs (stc : Int32).toInt (ostc : Int32).toInt stb ostb p3) ∧ va_P D vwCl [(st, .inr (7, [.ref st_what, .ref st_node, .ref st_index, .ref st_before, .int ostc])), (st_what, .inl (g 0, 8, .inl ostw)), (st_node, .inl (g 0, 8, .inl ostn)), (st_index, .inl (g 0, 8, .inl osti)), (st_before, .inl (g 0, 8, .inl ostb))] t.heap ∧ va_D (va_A [(st, .inr (7, [.ref st_what, .ref st_node, .ref st_index, .ref st_before, .int stc])), (st_what, .inl (g 0, 8, .inl stw)), (st_node, .inl (g 0, 8, .inl stn)), (st_index, .inl (g 0, 8, .inl sti)), (st_before, .inl (g 0, 8, .inl stb))] sz) [(st, .inr (7, [.ref st_what, .ref st_node, .ref st_index, .ref st_before, .int ostc])), (st_what, .inl (g 0, 8, .inl ostw)), (st_node, .inl (g 0, 8, .inl ostn)), (st_index, .inl (g 0, 8, .inl osti)), (st_before, .inl (g 0, 8, .inl ostb))]) (va_A [(st, .inr (7, [.ref st_what, .ref st_node, .ref st_index, .ref st_before, .int stc])), (st_what, .inl (g 0, 8, .inl stw)), (st_node, .inl (g 0, 8, .inl stn)), (st_index, .inl (g 0, 8, .inl sti)), (st_before, .inl (g 0, 8, .inl stb))] sz)) 0 0 (va_A [(st, .inr (7, [.ref st_what, .ref st_node, .ref st_index, .ref st_before, .int stc])), (st_what, .inl (g 0, 8, .inl stw)), (st_node, .inl (g 0, 8, .inl stn)), (st_index, .inl (g 0, 8, .inl sti)), (st_before, .inl (g 0, 8, .inl stb))] sz) := by
  refine Met.ofW (cc := cX7_add) (maxL := 5) (ret := none) (by decide) rfl ?_
  intro p e s m args below meth c s₁ B hml hv
  obtain ⟨ha, hsz, hP, hK, hD0⟩ := hv
  have hx := B.exec
  have hb := B.bytes
  have hr := B.returns
  have hts0 := atoms_spec (ws := (.code yX7_add cX7_add 5 none :: wsL_law)) B.pre
  have hts : ∀ w ∈ wsL_law, w.before args s = true := fun w h => hts0 w (List.mem_cons_of_mem _ h)
  have hown : s.vm.findClass RX7 = some m.cls := findClass_of_methodNamed B.named
  have hlocks := B.notSynchronized
  subst hsz
  have hD := hD0.self (sz := s.heap.size)
  generalize hAe : va_A [(st, .inr (7, [.ref st_what, .ref st_node, .ref st_index, .ref st_before, .int stc])), (st_what, .inl (g 0, 8, .inl stw)), (st_node, .inl (g 0, 8, .inl stn)), (st_index, .inl (g 0, 8, .inl sti)), (st_before, .inl (g 0, 8, .inl stb))] s.heap.size = A at hD ⊢
  have hA : ∀ q : Nat, s.heap.size ≤ q → A q := fun q h => by rw [← hAe]; exact Or.inr h
  have hS : va_S A s.heap s.heap [] := va_S.rf
  have hP : va_P D vwCl [(st, .inr (7, [.ref st_what, .ref st_node, .ref st_index, .ref st_before, .int stc])), (st_what, .inl (g 0, 8, .inl stw)), (st_node, .inl (g 0, 8, .inl stn)), (st_index, .inl (g 0, 8, .inl sti)), (st_before, .inl (g 0, 8, .inl stb))] s.heap := hP
  refine W.eq (g2 := entryFrame m ([.ref st, .int 0, .int p1, .int p2, .int p3] : List Value).toArray 5) (by rw [ha]) ?_
  have hl := lv_entry ([.ref st, .int 0, .int p1, .int p2, .int p3]) (n := 5) (Nat.le_of_ble_eq_true rfl)
  rw [lg_entry_eq]
  generalize (lg_sl ([.ref st, .int 0, .int p1, .int p2, .int p3]) ++ List.replicate (5 - (lg_sl ([.ref st, .int 0, .int p1, .int p2, .int p3])).length) Slot.unset).toArray = ls at hl ⊢
  have hl : lv_has ls 5 [(0, .ref st), (1, .int 0), (2, .int p1), (3, .int p2), (4, .int p3)] := hl
  refine lv_aload_n hx hb dX7_add_0 rfl (lv_at hl 0 rfl) ?_
  refine va_get (D := D) (ci := 7) (v := .int stc) (C := RX7) (T := TX7) (N := 5) hx hb hts inlX7 hown hK hP 0 rfl rfl 4 (by decide) (hts (Cond.fieldLink RX7 24 "ChanceRings$Steps" "count" "I") qw_619) (fun _ h9 => h9) rfl dX7_add_1 ?_
  refine lv_bipush (v := 8) hx hb dX7_add_4 (by decide) ?_
  refine lv_icmp_lt (tgt := 13) hx hb dX7_add_6 (by decide) (fun c_95534 => ?_) (fun c_95534 => ?_)
  · skip
    have kk_8 := tk_8
    have c_95534_i := Int32.lt_iff_toInt_lt.mp c_95534
    have h_95535 : 0 ≤ (stc : Int32).toInt ∧ (stc : Int32).toInt ≤ 7 := nr_lt_l h_stc (⟨by decide, by decide⟩ : 8 ≤ (8 : Int32).toInt ∧ (8 : Int32).toInt ≤ 8) c_95534_i (by decide) (by decide)
    refine lv_aload_n hx hb dX7_add_13 rfl (lv_at hl 0 rfl) ?_
    refine va_get (D := D) (ci := 7) (v := .ref st_what) (C := RX7) (T := TX7) (N := 5) hx hb hts inlX7 hown hK hP 0 rfl rfl 0 (by decide) (hts (Cond.fieldLink RX7 9 "ChanceRings$Steps" "what" "[I") qw_620) (fun _ h9 => h9) rfl dX7_add_14 ?_
    refine lv_aload_n hx hb dX7_add_17 rfl (lv_at hl 0 rfl) ?_
    refine va_get (D := D) (ci := 7) (v := .int stc) (C := RX7) (T := TX7) (N := 5) hx hb hts inlX7 hown hK hP 0 rfl rfl 4 (by decide) (hts (Cond.fieldLink RX7 24 "ChanceRings$Steps" "count" "I") qw_619) (fun _ h9 => h9) rfl dX7_add_18 ?_
    refine lv_iload_n hx hb dX7_add_21 rfl (lv_at hl 1 rfl) ?_
    refine va_iast hx hb hK hP hD hS 1 0 rfl rfl (tr_in h_95535 (by decide) (by decide)) dX7_add_22 (fun H locs hP hD hS => ?_)
    obtain ⟨f_95537, f_95537_e, h_f_95537, hP, hD⟩ : ∃ FX : Nat → Int32, FX = (upd stw (stc : Int32).toNatClampNeg 0) ∧ (∀ j : Nat, 0 ≤ (FX j).toInt ∧ (FX j).toInt ≤ 2) ∧ va_P D vwCl [(st, .inr (7, [.ref st_what, .ref st_node, .ref st_index, .ref st_before, .int stc])), (st_what, .inl (g 0, 8, .inl FX)), (st_node, .inl (g 0, 8, .inl stn)), (st_index, .inl (g 0, 8, .inl sti)), (st_before, .inl (g 0, 8, .inl stb))] H ∧ va_D A [(st, .inr (7, [.ref st_what, .ref st_node, .ref st_index, .ref st_before, .int stc])), (st_what, .inl (g 0, 8, .inl FX)), (st_node, .inl (g 0, 8, .inl stn)), (st_index, .inl (g 0, 8, .inl sti)), (st_before, .inl (g 0, 8, .inl stb))] := ⟨_, rfl, tr_upd h_stw (⟨by decide, by decide⟩ : 0 ≤ (0 : Int32).toInt ∧ (0 : Int32).toInt ≤ 2), hP, hD⟩
    have hP : va_P D vwCl [(st, .inr (7, [.ref st_what, .ref st_node, .ref st_index, .ref st_before, .int stc])), (st_what, .inl (g 0, 8, .inl f_95537)), (st_node, .inl (g 0, 8, .inl stn)), (st_index, .inl (g 0, 8, .inl sti)), (st_before, .inl (g 0, 8, .inl stb))] H := hP
    have hD : va_D A [(st, .inr (7, [.ref st_what, .ref st_node, .ref st_index, .ref st_before, .int stc])), (st_what, .inl (g 0, 8, .inl f_95537)), (st_node, .inl (g 0, 8, .inl stn)), (st_index, .inl (g 0, 8, .inl sti)), (st_before, .inl (g 0, 8, .inl stb))] := hD
    refine lv_aload_n hx hb dX7_add_23 rfl (lv_at hl 0 rfl) ?_
    refine va_get (D := D) (ci := 7) (v := .ref st_node) (C := RX7) (T := TX7) (N := 5) hx hb hts inlX7 hown hK hP 0 rfl rfl 1 (by decide) (hts (Cond.fieldLink RX7 15 "ChanceRings$Steps" "node" "[I") qw_622) (fun _ h9 => h9) rfl dX7_add_24 ?_
    refine lv_aload_n hx hb dX7_add_27 rfl (lv_at hl 0 rfl) ?_
    refine va_get (D := D) (ci := 7) (v := .int stc) (C := RX7) (T := TX7) (N := 5) hx hb hts inlX7 hown hK hP 0 rfl rfl 4 (by decide) (hts (Cond.fieldLink RX7 24 "ChanceRings$Steps" "count" "I") qw_619) (fun _ h9 => h9) rfl dX7_add_28 ?_
    refine lv_iload_n hx hb dX7_add_31 rfl (lv_at hl 2 rfl) ?_
    refine va_iast hx hb hK hP hD hS 2 0 rfl rfl (tr_in h_95535 (by decide) (by decide)) dX7_add_32 (fun H locs hP hD hS => ?_)
    obtain ⟨f_95538, f_95538_e, h_f_95538, hP, hD⟩ : ∃ FX : Nat → Int32, FX = (upd stn (stc : Int32).toNatClampNeg p1) ∧ (∀ j : Nat, 0 ≤ (FX j).toInt ∧ (FX j).toInt ≤ 11) ∧ va_P D vwCl [(st, .inr (7, [.ref st_what, .ref st_node, .ref st_index, .ref st_before, .int stc])), (st_what, .inl (g 0, 8, .inl f_95537)), (st_node, .inl (g 0, 8, .inl FX)), (st_index, .inl (g 0, 8, .inl sti)), (st_before, .inl (g 0, 8, .inl stb))] H ∧ va_D A [(st, .inr (7, [.ref st_what, .ref st_node, .ref st_index, .ref st_before, .int stc])), (st_what, .inl (g 0, 8, .inl f_95537)), (st_node, .inl (g 0, 8, .inl FX)), (st_index, .inl (g 0, 8, .inl sti)), (st_before, .inl (g 0, 8, .inl stb))] := ⟨_, rfl, tr_upd h_stn (tr_w h_p1 (by decide) (by decide)), hP, hD⟩
    have hP : va_P D vwCl [(st, .inr (7, [.ref st_what, .ref st_node, .ref st_index, .ref st_before, .int stc])), (st_what, .inl (g 0, 8, .inl f_95537)), (st_node, .inl (g 0, 8, .inl f_95538)), (st_index, .inl (g 0, 8, .inl sti)), (st_before, .inl (g 0, 8, .inl stb))] H := hP
    have hD : va_D A [(st, .inr (7, [.ref st_what, .ref st_node, .ref st_index, .ref st_before, .int stc])), (st_what, .inl (g 0, 8, .inl f_95537)), (st_node, .inl (g 0, 8, .inl f_95538)), (st_index, .inl (g 0, 8, .inl sti)), (st_before, .inl (g 0, 8, .inl stb))] := hD
    refine lv_aload_n hx hb dX7_add_33 rfl (lv_at hl 0 rfl) ?_
    refine va_get (D := D) (ci := 7) (v := .ref st_index) (C := RX7) (T := TX7) (N := 5) hx hb hts inlX7 hown hK hP 0 rfl rfl 2 (by decide) (hts (Cond.fieldLink RX7 18 "ChanceRings$Steps" "index" "[I") qw_623) (fun _ h9 => h9) rfl dX7_add_34 ?_
    refine lv_aload_n hx hb dX7_add_37 rfl (lv_at hl 0 rfl) ?_
    refine va_get (D := D) (ci := 7) (v := .int stc) (C := RX7) (T := TX7) (N := 5) hx hb hts inlX7 hown hK hP 0 rfl rfl 4 (by decide) (hts (Cond.fieldLink RX7 24 "ChanceRings$Steps" "count" "I") qw_619) (fun _ h9 => h9) rfl dX7_add_38 ?_
    refine lv_iload_n hx hb dX7_add_41 rfl (lv_at hl 3 rfl) ?_
    refine va_iast hx hb hK hP hD hS 3 0 rfl rfl (tr_in h_95535 (by decide) (by decide)) dX7_add_42 (fun H locs hP hD hS => ?_)
    obtain ⟨f_95539, f_95539_e, h_f_95539, hP, hD⟩ : ∃ FX : Nat → Int32, FX = (upd sti (stc : Int32).toNatClampNeg p2) ∧ (∀ j : Nat, 0 ≤ (FX j).toInt ∧ (FX j).toInt ≤ 2) ∧ va_P D vwCl [(st, .inr (7, [.ref st_what, .ref st_node, .ref st_index, .ref st_before, .int stc])), (st_what, .inl (g 0, 8, .inl f_95537)), (st_node, .inl (g 0, 8, .inl f_95538)), (st_index, .inl (g 0, 8, .inl FX)), (st_before, .inl (g 0, 8, .inl stb))] H ∧ va_D A [(st, .inr (7, [.ref st_what, .ref st_node, .ref st_index, .ref st_before, .int stc])), (st_what, .inl (g 0, 8, .inl f_95537)), (st_node, .inl (g 0, 8, .inl f_95538)), (st_index, .inl (g 0, 8, .inl FX)), (st_before, .inl (g 0, 8, .inl stb))] := ⟨_, rfl, tr_upd h_sti (tr_w h_p2 (by decide) (by decide)), hP, hD⟩
    have hP : va_P D vwCl [(st, .inr (7, [.ref st_what, .ref st_node, .ref st_index, .ref st_before, .int stc])), (st_what, .inl (g 0, 8, .inl f_95537)), (st_node, .inl (g 0, 8, .inl f_95538)), (st_index, .inl (g 0, 8, .inl f_95539)), (st_before, .inl (g 0, 8, .inl stb))] H := hP
    have hD : va_D A [(st, .inr (7, [.ref st_what, .ref st_node, .ref st_index, .ref st_before, .int stc])), (st_what, .inl (g 0, 8, .inl f_95537)), (st_node, .inl (g 0, 8, .inl f_95538)), (st_index, .inl (g 0, 8, .inl f_95539)), (st_before, .inl (g 0, 8, .inl stb))] := hD
    refine lv_aload_n hx hb dX7_add_43 rfl (lv_at hl 0 rfl) ?_
    refine va_get (D := D) (ci := 7) (v := .ref st_before) (C := RX7) (T := TX7) (N := 5) hx hb hts inlX7 hown hK hP 0 rfl rfl 3 (by decide) (hts (Cond.fieldLink RX7 21 "ChanceRings$Steps" "before" "[I") qw_624) (fun _ h9 => h9) rfl dX7_add_44 ?_
    refine lv_aload_n hx hb dX7_add_47 rfl (lv_at hl 0 rfl) ?_
    refine va_get (D := D) (ci := 7) (v := .int stc) (C := RX7) (T := TX7) (N := 5) hx hb hts inlX7 hown hK hP 0 rfl rfl 4 (by decide) (hts (Cond.fieldLink RX7 24 "ChanceRings$Steps" "count" "I") qw_619) (fun _ h9 => h9) rfl dX7_add_48 ?_
    refine lv_iload hx hb dX7_add_51 (lv_at hl 4 rfl) ?_
    refine va_iast hx hb hK hP hD hS 4 0 rfl rfl (tr_in h_95535 (by decide) (by decide)) dX7_add_53 (fun H locs hP hD hS => ?_)
    obtain ⟨f_95540, f_95540_e, hP, hD⟩ : ∃ FX : Nat → Int32, FX = (upd stb (stc : Int32).toNatClampNeg p3) ∧ va_P D vwCl [(st, .inr (7, [.ref st_what, .ref st_node, .ref st_index, .ref st_before, .int stc])), (st_what, .inl (g 0, 8, .inl f_95537)), (st_node, .inl (g 0, 8, .inl f_95538)), (st_index, .inl (g 0, 8, .inl f_95539)), (st_before, .inl (g 0, 8, .inl FX))] H ∧ va_D A [(st, .inr (7, [.ref st_what, .ref st_node, .ref st_index, .ref st_before, .int stc])), (st_what, .inl (g 0, 8, .inl f_95537)), (st_node, .inl (g 0, 8, .inl f_95538)), (st_index, .inl (g 0, 8, .inl f_95539)), (st_before, .inl (g 0, 8, .inl FX))] := ⟨_, rfl, hP, hD⟩
    have hP : va_P D vwCl [(st, .inr (7, [.ref st_what, .ref st_node, .ref st_index, .ref st_before, .int stc])), (st_what, .inl (g 0, 8, .inl f_95537)), (st_node, .inl (g 0, 8, .inl f_95538)), (st_index, .inl (g 0, 8, .inl f_95539)), (st_before, .inl (g 0, 8, .inl f_95540))] H := hP
    have hD : va_D A [(st, .inr (7, [.ref st_what, .ref st_node, .ref st_index, .ref st_before, .int stc])), (st_what, .inl (g 0, 8, .inl f_95537)), (st_node, .inl (g 0, 8, .inl f_95538)), (st_index, .inl (g 0, 8, .inl f_95539)), (st_before, .inl (g 0, 8, .inl f_95540))] := hD
    refine lv_aload_n hx hb dX7_add_54 rfl (lv_at hl 0 rfl) ?_
    refine lv_dup hx hb dX7_add_55 rfl ?_
    refine va_get (D := D) (ci := 7) (v := .int stc) (C := RX7) (T := TX7) (N := 5) hx hb hts inlX7 hown hK hP 0 rfl rfl 4 (by decide) (hts (Cond.fieldLink RX7 24 "ChanceRings$Steps" "count" "I") qw_619) (fun _ h9 => h9) rfl dX7_add_56 ?_
    refine lv_iconst (v := 1) hx hb dX7_add_59 (by decide) ?_
    refine lv_iadd hx hb dX7_add_60 ?_
    refine lv_topi (fun v_95541 v_95541_e => ?_)
    have h_v_95541 : 1 ≤ (v_95541 : Int32).toInt ∧ (v_95541 : Int32).toInt ≤ 8 := by rw [v_95541_e]; exact tr_add h_95535 (⟨by decide, by decide⟩ : 1 ≤ (1 : Int32).toInt ∧ (1 : Int32).toInt ≤ 1) (by decide) (by decide) (by decide) (by decide)
    have q_v_95541 : v_95541.toInt = stc.toInt + 1 := by rw [v_95541_e]; exact tr_addE h_95535 (⟨by decide, by decide⟩ : 1 ≤ (1 : Int32).toInt ∧ (1 : Int32).toInt ≤ 1) (by decide) (by decide)
    refine va_put (D := D) (ci := 7) (v := .int v_95541) (ty := .int) (C := RX7) (T := TX7) (N := 5) hx hb hts inlX7 tyX7 tyX7_ok nmX7 hown hK hP hD hS 0 rfl rfl 4 (by decide) (hts (Cond.fieldLink RX7 24 "ChanceRings$Steps" "count" "I") qw_619) (fun _ h9 => h9) rfl (by decide +kernel) rfl rfl (Nat.le_of_ble_eq_true rfl) dX7_add_61 (fun H locs hP hD hS => ?_)
    have hP : va_P D vwCl [(st, .inr (7, [.ref st_what, .ref st_node, .ref st_index, .ref st_before, .int v_95541])), (st_what, .inl (g 0, 8, .inl f_95537)), (st_node, .inl (g 0, 8, .inl f_95538)), (st_index, .inl (g 0, 8, .inl f_95539)), (st_before, .inl (g 0, 8, .inl f_95540))] H := hP
    have hD : va_D A [(st, .inr (7, [.ref st_what, .ref st_node, .ref st_index, .ref st_before, .int v_95541])), (st_what, .inl (g 0, 8, .inl f_95537)), (st_node, .inl (g 0, 8, .inl f_95538)), (st_index, .inl (g 0, 8, .inl f_95539)), (st_before, .inl (g 0, 8, .inl f_95540))] := hD
    have hP9 := hP.sub (ws' := [(st, .inr (7, [.ref st_what, .ref st_node, .ref st_index, .ref st_before, .int v_95541])), (st_what, .inl (g 0, 8, .inl f_95537)), (st_node, .inl (g 0, 8, .inl f_95538)), (st_index, .inl (g 0, 8, .inl f_95539)), (st_before, .inl (g 0, 8, .inl f_95540))]) [0, 1, 2, 3, 4] rfl
    have hD9 := hD.sub (ws' := [(st, .inr (7, [.ref st_what, .ref st_node, .ref st_index, .ref st_before, .int v_95541])), (st_what, .inl (g 0, 8, .inl f_95537)), (st_node, .inl (g 0, 8, .inl f_95538)), (st_index, .inl (g 0, 8, .inl f_95539)), (st_before, .inl (g 0, 8, .inl f_95540))]) [0, 1, 2, 3, 4] (by decide) rfl
    exact W.vret hx hb hr (fun t ht hW => ⟨⟨(), rfl, trivial, v_95541, f_95537, f_95538, f_95539, f_95540, (tr_w h_v_95541 (by decide) (by decide)), (tr_wa h_f_95537 (by decide) (by decide)), (tr_wa h_f_95538 (by decide) (by decide)), (tr_wa h_f_95539 (by decide) (by decide)), (by rw [f_95537_e, f_95540_e]; exact tr_relupd hrel (fun _ => h_p3)), (pus_a f_95537_e (by show Int.toNat _ = _; omega) (by omega) (by have z_8 := tk_8; have z_7 := tk_7; omega) (by have z_8 := tk_8; have z_7 := tk_7; omega)), (pus_a f_95538_e (by show Int.toNat _ = _; omega) (by omega) (by have z_8 := tk_8; have z_7 := tk_7; omega) (by have z_8 := tk_8; have z_7 := tk_7; omega)), (pus_a f_95539_e (by show Int.toNat _ = _; omega) (by omega) (by have z_8 := tk_8; have z_7 := tk_7; omega) (by have z_8 := tk_8; have z_7 := tk_7; omega)), (pus_a f_95540_e (by show Int.toNat _ = _; omega) (by omega) (by have z_8 := tk_8; have z_7 := tk_7; omega) (by have z_8 := tk_8; have z_7 := tk_7; omega)), by rw [ht]; exact hP9, hD9⟩, hS.F ht⟩) hS.2.2 dX7_add_64
  · skip
    have kk_8 := tk_8
    have c_95534_i := Int32.le_iff_toInt_le.mp (Int32.not_lt.mp c_95534)
    have h_95536 : 8 ≤ (stc : Int32).toInt ∧ (stc : Int32).toInt ≤ 8 := nr_le_r (⟨by decide, by decide⟩ : 8 ≤ (8 : Int32).toInt ∧ (8 : Int32).toInt ≤ 8) h_stc c_95534_i (by decide) (by decide)
    refine lv_aload_n hx hb dX7_add_9 rfl (lv_at hl 0 rfl) ?_
    have hPc := hP.sub (ws' := [(st, .inr (7, [.ref st_what, .ref st_node, .ref st_index, .ref st_before, .int stc])), (st_what, .inl (g 0, 8, .inl stw)), (st_node, .inl (g 0, 8, .inl stn)), (st_index, .inl (g 0, 8, .inl sti)), (st_before, .inl (g 0, 8, .inl stb))]) [0, 1, 2, 3, 4] rfl
    have hDc := hD.sub (ws' := [(st, .inr (7, [.ref st_what, .ref st_node, .ref st_index, .ref st_before, .int stc])), (st_what, .inl (g 0, 8, .inl stw)), (st_node, .inl (g 0, 8, .inl stn)), (st_index, .inl (g 0, 8, .inl sti)), (st_before, .inl (g 0, 8, .inl stb))]) [0, 1, 2, 3, 4] (by decide) rfl
    have hFc := va_free (wc := [(st, .inr (7, [.ref st_what, .ref st_node, .ref st_index, .ref st_before, .int stc])), (st_what, .inl (g 0, 8, .inl stw)), (st_node, .inl (g 0, 8, .inl stn)), (st_index, .inl (g 0, 8, .inl sti)), (st_before, .inl (g 0, 8, .inl stb))]) hD hS hA [0, 1, 2, 3, 4] rfl
    refine va_callv (va_runV (As := []) (rest := []) ⟨hx, hb, hml, hown, hts⟩ (c_X7_forgetOldest l D g s.heap.size st st_what st_node st_index st_before stc stw stn sti stb (tr_w h_95536 (by decide) (by decide)) (tr_wa h_stw (by decide) (by decide)) (tr_wa h_stn (by decide) (by decide)) (tr_wa h_sti (by decide) (by decide)) hrel) (cwV 0 hts (tz_gV qw_625 qw_626 qw_627 qw_628 qw_629) rfl rfl rfl (by decide +kernel) ⟨Nat.le_of_ble_eq_true rfl, Nat.le_of_ble_eq_true rfl⟩) ⟨tz_blQ, va_recv hK hPc (ci := 7) (q0 := 0) rfl rfl, tz_preQ hPc hK hDc⟩ rfl rfl hl.1 rfl (lv_room (Nat.le_of_ble_eq_true rfl)) dX7_add_10 ⟨Nat.le_of_ble_eq_true rfl, Nat.le_of_ble_eq_true rfl⟩) hS (fun q _ h => hFc q h) hFc (fun u t H1 locs ht hvm hw hB hz1 hk1 hS => ?_)
    obtain ⟨ostw_95543, ostn_95544, osti_95545, ostb_95546, hf_95547, hf_95548, hf_95549, hf_95550, hf_95551, hf_95552, hf_95553, hf_95554, hP1, hD1⟩ := hB
    rw [ht] at hP1
    obtain ⟨hP, hD⟩ := va_join (wr := []) (w1 := [(st, .inr (7, [.ref st_what, .ref st_node, .ref st_index, .ref st_before, .int 7])), (st_what, .inl (g 0, 8, .inl ostw_95543)), (st_node, .inl (g 0, 8, .inl ostn_95544)), (st_index, .inl (g 0, 8, .inl osti_95545)), (st_before, .inl (g 0, 8, .inl ostb_95546))]) hP hD [0, 1, 2, 3, 4] [] rfl rfl (by decide) (by decide) hk1 hFc hP1 hD1
    generalize H1 = H at hP hS ⊢
    have hP : va_P D vwCl [(st, .inr (7, [.ref st_what, .ref st_node, .ref st_index, .ref st_before, .int 7])), (st_what, .inl (g 0, 8, .inl ostw_95543)), (st_node, .inl (g 0, 8, .inl ostn_95544)), (st_index, .inl (g 0, 8, .inl osti_95545)), (st_before, .inl (g 0, 8, .inl ostb_95546))] H := hP
    have hD : va_D A [(st, .inr (7, [.ref st_what, .ref st_node, .ref st_index, .ref st_before, .int 7])), (st_what, .inl (g 0, 8, .inl ostw_95543)), (st_node, .inl (g 0, 8, .inl ostn_95544)), (st_index, .inl (g 0, 8, .inl osti_95545)), (st_before, .inl (g 0, 8, .inl ostb_95546))] := hD
    refine lv_aload_n hx hb dX7_add_13 rfl (lv_at hl 0 rfl) ?_
    refine va_get (D := D) (ci := 7) (v := .ref st_what) (C := RX7) (T := TX7) (N := 5) hx hb hts inlX7 hown hK hP 0 rfl rfl 0 (by decide) (hts (Cond.fieldLink RX7 9 "ChanceRings$Steps" "what" "[I") qw_620) (fun _ h9 => h9) rfl dX7_add_14 ?_
    refine lv_aload_n hx hb dX7_add_17 rfl (lv_at hl 0 rfl) ?_
    refine va_get (D := D) (ci := 7) (v := .int 7) (C := RX7) (T := TX7) (N := 5) hx hb hts inlX7 hown hK hP 0 rfl rfl 4 (by decide) (hts (Cond.fieldLink RX7 24 "ChanceRings$Steps" "count" "I") qw_619) (fun _ h9 => h9) rfl dX7_add_18 ?_
    refine lv_iload_n hx hb dX7_add_21 rfl (lv_at hl 1 rfl) ?_
    refine va_iast hx hb hK hP hD hS 1 0 rfl rfl (tz_in (by decide +kernel)) dX7_add_22 (fun H locs hP hD hS => ?_)
    obtain ⟨f_95555, f_95555_e, h_f_95555, hP, hD⟩ : ∃ FX : Nat → Int32, FX = (upd ostw_95543 (7 : Int32).toNatClampNeg 0) ∧ (∀ j : Nat, 0 ≤ (FX j).toInt ∧ (FX j).toInt ≤ 2) ∧ va_P D vwCl [(st, .inr (7, [.ref st_what, .ref st_node, .ref st_index, .ref st_before, .int 7])), (st_what, .inl (g 0, 8, .inl FX)), (st_node, .inl (g 0, 8, .inl ostn_95544)), (st_index, .inl (g 0, 8, .inl osti_95545)), (st_before, .inl (g 0, 8, .inl ostb_95546))] H ∧ va_D A [(st, .inr (7, [.ref st_what, .ref st_node, .ref st_index, .ref st_before, .int 7])), (st_what, .inl (g 0, 8, .inl FX)), (st_node, .inl (g 0, 8, .inl ostn_95544)), (st_index, .inl (g 0, 8, .inl osti_95545)), (st_before, .inl (g 0, 8, .inl ostb_95546))] := ⟨_, rfl, tr_upd hf_95547 (⟨by decide, by decide⟩ : 0 ≤ (0 : Int32).toInt ∧ (0 : Int32).toInt ≤ 2), hP, hD⟩
    have hP : va_P D vwCl [(st, .inr (7, [.ref st_what, .ref st_node, .ref st_index, .ref st_before, .int 7])), (st_what, .inl (g 0, 8, .inl f_95555)), (st_node, .inl (g 0, 8, .inl ostn_95544)), (st_index, .inl (g 0, 8, .inl osti_95545)), (st_before, .inl (g 0, 8, .inl ostb_95546))] H := hP
    have hD : va_D A [(st, .inr (7, [.ref st_what, .ref st_node, .ref st_index, .ref st_before, .int 7])), (st_what, .inl (g 0, 8, .inl f_95555)), (st_node, .inl (g 0, 8, .inl ostn_95544)), (st_index, .inl (g 0, 8, .inl osti_95545)), (st_before, .inl (g 0, 8, .inl ostb_95546))] := hD
    refine lv_aload_n hx hb dX7_add_23 rfl (lv_at hl 0 rfl) ?_
    refine va_get (D := D) (ci := 7) (v := .ref st_node) (C := RX7) (T := TX7) (N := 5) hx hb hts inlX7 hown hK hP 0 rfl rfl 1 (by decide) (hts (Cond.fieldLink RX7 15 "ChanceRings$Steps" "node" "[I") qw_622) (fun _ h9 => h9) rfl dX7_add_24 ?_
    refine lv_aload_n hx hb dX7_add_27 rfl (lv_at hl 0 rfl) ?_
    refine va_get (D := D) (ci := 7) (v := .int 7) (C := RX7) (T := TX7) (N := 5) hx hb hts inlX7 hown hK hP 0 rfl rfl 4 (by decide) (hts (Cond.fieldLink RX7 24 "ChanceRings$Steps" "count" "I") qw_619) (fun _ h9 => h9) rfl dX7_add_28 ?_
    refine lv_iload_n hx hb dX7_add_31 rfl (lv_at hl 2 rfl) ?_
    refine va_iast hx hb hK hP hD hS 2 0 rfl rfl (tz_in (by decide +kernel)) dX7_add_32 (fun H locs hP hD hS => ?_)
    obtain ⟨f_95556, f_95556_e, h_f_95556, hP, hD⟩ : ∃ FX : Nat → Int32, FX = (upd ostn_95544 (7 : Int32).toNatClampNeg p1) ∧ (∀ j : Nat, 0 ≤ (FX j).toInt ∧ (FX j).toInt ≤ 11) ∧ va_P D vwCl [(st, .inr (7, [.ref st_what, .ref st_node, .ref st_index, .ref st_before, .int 7])), (st_what, .inl (g 0, 8, .inl f_95555)), (st_node, .inl (g 0, 8, .inl FX)), (st_index, .inl (g 0, 8, .inl osti_95545)), (st_before, .inl (g 0, 8, .inl ostb_95546))] H ∧ va_D A [(st, .inr (7, [.ref st_what, .ref st_node, .ref st_index, .ref st_before, .int 7])), (st_what, .inl (g 0, 8, .inl f_95555)), (st_node, .inl (g 0, 8, .inl FX)), (st_index, .inl (g 0, 8, .inl osti_95545)), (st_before, .inl (g 0, 8, .inl ostb_95546))] := ⟨_, rfl, tr_upd hf_95548 (tr_w h_p1 (by decide) (by decide)), hP, hD⟩
    have hP : va_P D vwCl [(st, .inr (7, [.ref st_what, .ref st_node, .ref st_index, .ref st_before, .int 7])), (st_what, .inl (g 0, 8, .inl f_95555)), (st_node, .inl (g 0, 8, .inl f_95556)), (st_index, .inl (g 0, 8, .inl osti_95545)), (st_before, .inl (g 0, 8, .inl ostb_95546))] H := hP
    have hD : va_D A [(st, .inr (7, [.ref st_what, .ref st_node, .ref st_index, .ref st_before, .int 7])), (st_what, .inl (g 0, 8, .inl f_95555)), (st_node, .inl (g 0, 8, .inl f_95556)), (st_index, .inl (g 0, 8, .inl osti_95545)), (st_before, .inl (g 0, 8, .inl ostb_95546))] := hD
    refine lv_aload_n hx hb dX7_add_33 rfl (lv_at hl 0 rfl) ?_
    refine va_get (D := D) (ci := 7) (v := .ref st_index) (C := RX7) (T := TX7) (N := 5) hx hb hts inlX7 hown hK hP 0 rfl rfl 2 (by decide) (hts (Cond.fieldLink RX7 18 "ChanceRings$Steps" "index" "[I") qw_623) (fun _ h9 => h9) rfl dX7_add_34 ?_
    refine lv_aload_n hx hb dX7_add_37 rfl (lv_at hl 0 rfl) ?_
    refine va_get (D := D) (ci := 7) (v := .int 7) (C := RX7) (T := TX7) (N := 5) hx hb hts inlX7 hown hK hP 0 rfl rfl 4 (by decide) (hts (Cond.fieldLink RX7 24 "ChanceRings$Steps" "count" "I") qw_619) (fun _ h9 => h9) rfl dX7_add_38 ?_
    refine lv_iload_n hx hb dX7_add_41 rfl (lv_at hl 3 rfl) ?_
    refine va_iast hx hb hK hP hD hS 3 0 rfl rfl (tz_in (by decide +kernel)) dX7_add_42 (fun H locs hP hD hS => ?_)
    obtain ⟨f_95557, f_95557_e, h_f_95557, hP, hD⟩ : ∃ FX : Nat → Int32, FX = (upd osti_95545 (7 : Int32).toNatClampNeg p2) ∧ (∀ j : Nat, 0 ≤ (FX j).toInt ∧ (FX j).toInt ≤ 2) ∧ va_P D vwCl [(st, .inr (7, [.ref st_what, .ref st_node, .ref st_index, .ref st_before, .int 7])), (st_what, .inl (g 0, 8, .inl f_95555)), (st_node, .inl (g 0, 8, .inl f_95556)), (st_index, .inl (g 0, 8, .inl FX)), (st_before, .inl (g 0, 8, .inl ostb_95546))] H ∧ va_D A [(st, .inr (7, [.ref st_what, .ref st_node, .ref st_index, .ref st_before, .int 7])), (st_what, .inl (g 0, 8, .inl f_95555)), (st_node, .inl (g 0, 8, .inl f_95556)), (st_index, .inl (g 0, 8, .inl FX)), (st_before, .inl (g 0, 8, .inl ostb_95546))] := ⟨_, rfl, tr_upd hf_95549 (tr_w h_p2 (by decide) (by decide)), hP, hD⟩
    have hP : va_P D vwCl [(st, .inr (7, [.ref st_what, .ref st_node, .ref st_index, .ref st_before, .int 7])), (st_what, .inl (g 0, 8, .inl f_95555)), (st_node, .inl (g 0, 8, .inl f_95556)), (st_index, .inl (g 0, 8, .inl f_95557)), (st_before, .inl (g 0, 8, .inl ostb_95546))] H := hP
    have hD : va_D A [(st, .inr (7, [.ref st_what, .ref st_node, .ref st_index, .ref st_before, .int 7])), (st_what, .inl (g 0, 8, .inl f_95555)), (st_node, .inl (g 0, 8, .inl f_95556)), (st_index, .inl (g 0, 8, .inl f_95557)), (st_before, .inl (g 0, 8, .inl ostb_95546))] := hD
    refine lv_aload_n hx hb dX7_add_43 rfl (lv_at hl 0 rfl) ?_
    refine va_get (D := D) (ci := 7) (v := .ref st_before) (C := RX7) (T := TX7) (N := 5) hx hb hts inlX7 hown hK hP 0 rfl rfl 3 (by decide) (hts (Cond.fieldLink RX7 21 "ChanceRings$Steps" "before" "[I") qw_624) (fun _ h9 => h9) rfl dX7_add_44 ?_
    refine lv_aload_n hx hb dX7_add_47 rfl (lv_at hl 0 rfl) ?_
    refine va_get (D := D) (ci := 7) (v := .int 7) (C := RX7) (T := TX7) (N := 5) hx hb hts inlX7 hown hK hP 0 rfl rfl 4 (by decide) (hts (Cond.fieldLink RX7 24 "ChanceRings$Steps" "count" "I") qw_619) (fun _ h9 => h9) rfl dX7_add_48 ?_
    refine lv_iload hx hb dX7_add_51 (lv_at hl 4 rfl) ?_
    refine va_iast hx hb hK hP hD hS 4 0 rfl rfl (tz_in (by decide +kernel)) dX7_add_53 (fun H locs hP hD hS => ?_)
    obtain ⟨f_95558, f_95558_e, hP, hD⟩ : ∃ FX : Nat → Int32, FX = (upd ostb_95546 (7 : Int32).toNatClampNeg p3) ∧ va_P D vwCl [(st, .inr (7, [.ref st_what, .ref st_node, .ref st_index, .ref st_before, .int 7])), (st_what, .inl (g 0, 8, .inl f_95555)), (st_node, .inl (g 0, 8, .inl f_95556)), (st_index, .inl (g 0, 8, .inl f_95557)), (st_before, .inl (g 0, 8, .inl FX))] H ∧ va_D A [(st, .inr (7, [.ref st_what, .ref st_node, .ref st_index, .ref st_before, .int 7])), (st_what, .inl (g 0, 8, .inl f_95555)), (st_node, .inl (g 0, 8, .inl f_95556)), (st_index, .inl (g 0, 8, .inl f_95557)), (st_before, .inl (g 0, 8, .inl FX))] := ⟨_, rfl, hP, hD⟩
    have hP : va_P D vwCl [(st, .inr (7, [.ref st_what, .ref st_node, .ref st_index, .ref st_before, .int 7])), (st_what, .inl (g 0, 8, .inl f_95555)), (st_node, .inl (g 0, 8, .inl f_95556)), (st_index, .inl (g 0, 8, .inl f_95557)), (st_before, .inl (g 0, 8, .inl f_95558))] H := hP
    have hD : va_D A [(st, .inr (7, [.ref st_what, .ref st_node, .ref st_index, .ref st_before, .int 7])), (st_what, .inl (g 0, 8, .inl f_95555)), (st_node, .inl (g 0, 8, .inl f_95556)), (st_index, .inl (g 0, 8, .inl f_95557)), (st_before, .inl (g 0, 8, .inl f_95558))] := hD
    refine lv_aload_n hx hb dX7_add_54 rfl (lv_at hl 0 rfl) ?_
    refine lv_dup hx hb dX7_add_55 rfl ?_
    refine va_get (D := D) (ci := 7) (v := .int 7) (C := RX7) (T := TX7) (N := 5) hx hb hts inlX7 hown hK hP 0 rfl rfl 4 (by decide) (hts (Cond.fieldLink RX7 24 "ChanceRings$Steps" "count" "I") qw_619) (fun _ h9 => h9) rfl dX7_add_56 ?_
    refine lv_iconst (v := 1) hx hb dX7_add_59 (by decide) ?_
    refine lv_iadd hx hb dX7_add_60 ?_
    refine tz_i (y := 8) (by decide +kernel) ?_
    refine va_put (D := D) (ci := 7) (v := .int 8) (ty := .int) (C := RX7) (T := TX7) (N := 5) hx hb hts inlX7 tyX7 tyX7_ok nmX7 hown hK hP hD hS 0 rfl rfl 4 (by decide) (hts (Cond.fieldLink RX7 24 "ChanceRings$Steps" "count" "I") qw_619) (fun _ h9 => h9) rfl (by decide +kernel) rfl rfl (Nat.le_of_ble_eq_true rfl) dX7_add_61 (fun H locs hP hD hS => ?_)
    have hP : va_P D vwCl [(st, .inr (7, [.ref st_what, .ref st_node, .ref st_index, .ref st_before, .int 8])), (st_what, .inl (g 0, 8, .inl f_95555)), (st_node, .inl (g 0, 8, .inl f_95556)), (st_index, .inl (g 0, 8, .inl f_95557)), (st_before, .inl (g 0, 8, .inl f_95558))] H := hP
    have hD : va_D A [(st, .inr (7, [.ref st_what, .ref st_node, .ref st_index, .ref st_before, .int 8])), (st_what, .inl (g 0, 8, .inl f_95555)), (st_node, .inl (g 0, 8, .inl f_95556)), (st_index, .inl (g 0, 8, .inl f_95557)), (st_before, .inl (g 0, 8, .inl f_95558))] := hD
    have hP9 := hP.sub (ws' := [(st, .inr (7, [.ref st_what, .ref st_node, .ref st_index, .ref st_before, .int 8])), (st_what, .inl (g 0, 8, .inl f_95555)), (st_node, .inl (g 0, 8, .inl f_95556)), (st_index, .inl (g 0, 8, .inl f_95557)), (st_before, .inl (g 0, 8, .inl f_95558))]) [0, 1, 2, 3, 4] rfl
    have hD9 := hD.sub (ws' := [(st, .inr (7, [.ref st_what, .ref st_node, .ref st_index, .ref st_before, .int 8])), (st_what, .inl (g 0, 8, .inl f_95555)), (st_node, .inl (g 0, 8, .inl f_95556)), (st_index, .inl (g 0, 8, .inl f_95557)), (st_before, .inl (g 0, 8, .inl f_95558))]) [0, 1, 2, 3, 4] (by decide) rfl
    exact W.vret hx hb hr (fun t ht hW => ⟨⟨(), rfl, trivial, 8, f_95555, f_95556, f_95557, f_95558, (⟨by decide, by decide⟩ : 0 ≤ (8 : Int32).toInt ∧ (8 : Int32).toInt ≤ 8), (tr_wa h_f_95555 (by decide) (by decide)), (tr_wa h_f_95556 (by decide) (by decide)), (tr_wa h_f_95557 (by decide) (by decide)), (by rw [f_95555_e, f_95558_e]; exact tr_relupd hf_95550 (fun _ => h_p3)), (pus_b hf_95551 f_95555_e (by decide) (by have z_8 := tk_8; have z_7 := tk_7; (first | (clear h_p1 h_p2 h_stc c_95534_i h_95536; omega) | omega)) (by have z_8 := tk_8; have z_7 := tk_7; (first | (clear h_p1 h_p2 h_stc c_95534_i h_95536; omega) | omega))), (pus_b hf_95552 f_95556_e (by decide) (by have z_8 := tk_8; have z_7 := tk_7; (first | (clear h_p1 h_p2 h_stc c_95534_i h_95536; omega) | omega)) (by have z_8 := tk_8; have z_7 := tk_7; (first | (clear h_p1 h_p2 h_stc c_95534_i h_95536; omega) | omega))), (pus_b hf_95553 f_95557_e (by decide) (by have z_8 := tk_8; have z_7 := tk_7; (first | (clear h_p1 h_p2 h_stc c_95534_i h_95536; omega) | omega)) (by have z_8 := tk_8; have z_7 := tk_7; (first | (clear h_p1 h_p2 h_stc c_95534_i h_95536; omega) | omega))), (pus_b hf_95554 f_95558_e (by decide) (by have z_8 := tk_8; have z_7 := tk_7; (first | (clear h_p1 h_p2 h_stc c_95534_i h_95536; omega) | omega)) (by have z_8 := tk_8; have z_7 := tk_7; (first | (clear h_p1 h_p2 h_stc c_95534_i h_95536; omega) | omega))), by rw [ht]; exact hP9, hD9⟩, hS.F ht⟩) hS.2.2 dX7_add_64
set_option maxHeartbeats 4000000 in
set_option maxRecDepth 100000 in
theorem c_X7_add1 (l : Launch) (D : va_G) (g : Nat → ClassId) (sz : Nat) (st : Nat) (p1 : Int32) (p2 : Int32) (p3 : Int32) (st_what : Nat) (st_node : Nat) (st_index : Nat) (st_before : Nat) (stc : Int32) (stw : Nat → Int32) (stn : Nat → Int32) (sti : Nat → Int32) (stb : Nat → Int32) (h_p1 : 0 ≤ (p1 : Int32).toInt ∧ (p1 : Int32).toInt ≤ 11) (h_p2 : 0 ≤ (p2 : Int32).toInt ∧ (p2 : Int32).toInt ≤ 2) (h_stc : 0 ≤ (stc : Int32).toInt ∧ (stc : Int32).toInt ≤ 8) (h_stw : ∀ j : Nat, 0 ≤ (stw j).toInt ∧ (stw j).toInt ≤ 2) (h_stn : ∀ j : Nat, 0 ≤ (stn j).toInt ∧ (stn j).toInt ≤ 11) (h_sti : ∀ j : Nat, 0 ≤ (sti j).toInt ∧ (sti j).toInt ≤ 2) (hrel : ∀ j : Nat, stw j = 0 → -1 ≤ (stb j).toInt ∧ (stb j).toInt ≤ 2) : Met l yX7_add (.code yX7_add cX7_add 5 none :: wsL_law) ({ frames := 2, cells := 0, slots := 0, locals := 80 }) (va_Pc [.ref st, .int 1, .int p1, .int p2, .int p3] (fun U => U.heap.size = sz ∧ va_P D vwCl [(st, .inr (7, [.ref st_what, .ref st_node, .ref st_index, .ref st_before, .int stc])), (st_what, .inl (g 0, 8, .inl stw)), (st_node, .inl (g 0, 8, .inl stn)), (st_index, .inl (g 0, 8, .inl sti)), (st_before, .inl (g 0, 8, .inl stb))] U.heap ∧ va_K D vwCl (TY g) U ∧ va_D (fun _ => True) [(st, .inr (7, [.ref st_what, .ref st_node, .ref st_index, .ref st_before, .int stc])), (st_what, .inl (g 0, 8, .inl stw)), (st_node, .inl (g 0, 8, .inl stn)), (st_index, .inl (g 0, 8, .inl sti)), (st_before, .inl (g 0, 8, .inl stb))])) (va_Qv (fun (_ : Unit) => True) (fun _ t => ∃ ostc : Int32, ∃ ostw : Nat → Int32, ∃ ostn : Nat → Int32, ∃ osti : Nat → Int32, ∃ ostb : Nat → Int32, (0 ≤ (ostc : Int32).toInt ∧ (ostc : Int32).toInt ≤ 8) ∧ (∀ j : Nat, 0 ≤ (ostw j).toInt ∧ (ostw j).toInt ≤ 2) ∧ (∀ j : Nat, 0 ≤ (ostn j).toInt ∧ (ostn j).toInt ≤ 11) ∧ (∀ j : Nat, 0 ≤ (osti j).toInt ∧ (osti j).toInt ≤ 2) ∧ (∀ j : Nat, ostw j = 0 → -1 ≤ (ostb j).toInt ∧ (ostb j).toInt ≤ 2) ∧ (PUs (stc : Int32).toInt (ostc : Int32).toInt stw ostw (1 : Int32)) ∧ (PUs (stc : Int32).toInt (ostc : Int32).toInt stn ostn p1) ∧ (PUs (stc : Int32).toInt (ostc : Int32).toInt sti osti p2) ∧ (PUs (stc : Int32).toInt (ostc : Int32).toInt stb ostb p3) ∧ va_P D vwCl [(st, .inr (7, [.ref st_what, .ref st_node, .ref st_index, .ref st_before, .int ostc])), (st_what, .inl (g 0, 8, .inl ostw)), (st_node, .inl (g 0, 8, .inl ostn)), (st_index, .inl (g 0, 8, .inl osti)), (st_before, .inl (g 0, 8, .inl ostb))] t.heap ∧ va_D (va_A [(st, .inr (7, [.ref st_what, .ref st_node, .ref st_index, .ref st_before, .int stc])), (st_what, .inl (g 0, 8, .inl stw)), (st_node, .inl (g 0, 8, .inl stn)), (st_index, .inl (g 0, 8, .inl sti)), (st_before, .inl (g 0, 8, .inl stb))] sz) [(st, .inr (7, [.ref st_what, .ref st_node, .ref st_index, .ref st_before, .int ostc])), (st_what, .inl (g 0, 8, .inl ostw)), (st_node, .inl (g 0, 8, .inl ostn)), (st_index, .inl (g 0, 8, .inl osti)), (st_before, .inl (g 0, 8, .inl ostb))]) (va_A [(st, .inr (7, [.ref st_what, .ref st_node, .ref st_index, .ref st_before, .int stc])), (st_what, .inl (g 0, 8, .inl stw)), (st_node, .inl (g 0, 8, .inl stn)), (st_index, .inl (g 0, 8, .inl sti)), (st_before, .inl (g 0, 8, .inl stb))] sz)) 0 0 (va_A [(st, .inr (7, [.ref st_what, .ref st_node, .ref st_index, .ref st_before, .int stc])), (st_what, .inl (g 0, 8, .inl stw)), (st_node, .inl (g 0, 8, .inl stn)), (st_index, .inl (g 0, 8, .inl sti)), (st_before, .inl (g 0, 8, .inl stb))] sz) := by
  refine Met.ofW (cc := cX7_add) (maxL := 5) (ret := none) (by decide) rfl ?_
  intro p e s m args below meth c s₁ B hml hv
  obtain ⟨ha, hsz, hP, hK, hD0⟩ := hv
  have hx := B.exec
  have hb := B.bytes
  have hr := B.returns
  have hts0 := atoms_spec (ws := (.code yX7_add cX7_add 5 none :: wsL_law)) B.pre
  have hts : ∀ w ∈ wsL_law, w.before args s = true := fun w h => hts0 w (List.mem_cons_of_mem _ h)
  have hown : s.vm.findClass RX7 = some m.cls := findClass_of_methodNamed B.named
  have hlocks := B.notSynchronized
  subst hsz
  have hD := hD0.self (sz := s.heap.size)
  generalize hAe : va_A [(st, .inr (7, [.ref st_what, .ref st_node, .ref st_index, .ref st_before, .int stc])), (st_what, .inl (g 0, 8, .inl stw)), (st_node, .inl (g 0, 8, .inl stn)), (st_index, .inl (g 0, 8, .inl sti)), (st_before, .inl (g 0, 8, .inl stb))] s.heap.size = A at hD ⊢
  have hA : ∀ q : Nat, s.heap.size ≤ q → A q := fun q h => by rw [← hAe]; exact Or.inr h
  have hS : va_S A s.heap s.heap [] := va_S.rf
  have hP : va_P D vwCl [(st, .inr (7, [.ref st_what, .ref st_node, .ref st_index, .ref st_before, .int stc])), (st_what, .inl (g 0, 8, .inl stw)), (st_node, .inl (g 0, 8, .inl stn)), (st_index, .inl (g 0, 8, .inl sti)), (st_before, .inl (g 0, 8, .inl stb))] s.heap := hP
  refine W.eq (g2 := entryFrame m ([.ref st, .int 1, .int p1, .int p2, .int p3] : List Value).toArray 5) (by rw [ha]) ?_
  have hl := lv_entry ([.ref st, .int 1, .int p1, .int p2, .int p3]) (n := 5) (Nat.le_of_ble_eq_true rfl)
  rw [lg_entry_eq]
  generalize (lg_sl ([.ref st, .int 1, .int p1, .int p2, .int p3]) ++ List.replicate (5 - (lg_sl ([.ref st, .int 1, .int p1, .int p2, .int p3])).length) Slot.unset).toArray = ls at hl ⊢
  have hl : lv_has ls 5 [(0, .ref st), (1, .int 1), (2, .int p1), (3, .int p2), (4, .int p3)] := hl
  refine lv_aload_n hx hb dX7_add_0 rfl (lv_at hl 0 rfl) ?_
  refine va_get (D := D) (ci := 7) (v := .int stc) (C := RX7) (T := TX7) (N := 5) hx hb hts inlX7 hown hK hP 0 rfl rfl 4 (by decide) (hts (Cond.fieldLink RX7 24 "ChanceRings$Steps" "count" "I") qw_619) (fun _ h9 => h9) rfl dX7_add_1 ?_
  refine lv_bipush (v := 8) hx hb dX7_add_4 (by decide) ?_
  refine lv_icmp_lt (tgt := 13) hx hb dX7_add_6 (by decide) (fun c_95559 => ?_) (fun c_95559 => ?_)
  · skip
    have kk_8 := tk_8
    have c_95559_i := Int32.lt_iff_toInt_lt.mp c_95559
    have h_95560 : 0 ≤ (stc : Int32).toInt ∧ (stc : Int32).toInt ≤ 7 := nr_lt_l h_stc (⟨by decide, by decide⟩ : 8 ≤ (8 : Int32).toInt ∧ (8 : Int32).toInt ≤ 8) c_95559_i (by decide) (by decide)
    refine lv_aload_n hx hb dX7_add_13 rfl (lv_at hl 0 rfl) ?_
    refine va_get (D := D) (ci := 7) (v := .ref st_what) (C := RX7) (T := TX7) (N := 5) hx hb hts inlX7 hown hK hP 0 rfl rfl 0 (by decide) (hts (Cond.fieldLink RX7 9 "ChanceRings$Steps" "what" "[I") qw_620) (fun _ h9 => h9) rfl dX7_add_14 ?_
    refine lv_aload_n hx hb dX7_add_17 rfl (lv_at hl 0 rfl) ?_
    refine va_get (D := D) (ci := 7) (v := .int stc) (C := RX7) (T := TX7) (N := 5) hx hb hts inlX7 hown hK hP 0 rfl rfl 4 (by decide) (hts (Cond.fieldLink RX7 24 "ChanceRings$Steps" "count" "I") qw_619) (fun _ h9 => h9) rfl dX7_add_18 ?_
    refine lv_iload_n hx hb dX7_add_21 rfl (lv_at hl 1 rfl) ?_
    refine va_iast hx hb hK hP hD hS 1 0 rfl rfl (tr_in h_95560 (by decide) (by decide)) dX7_add_22 (fun H locs hP hD hS => ?_)
    obtain ⟨f_95562, f_95562_e, h_f_95562, hP, hD⟩ : ∃ FX : Nat → Int32, FX = (upd stw (stc : Int32).toNatClampNeg 1) ∧ (∀ j : Nat, 0 ≤ (FX j).toInt ∧ (FX j).toInt ≤ 2) ∧ va_P D vwCl [(st, .inr (7, [.ref st_what, .ref st_node, .ref st_index, .ref st_before, .int stc])), (st_what, .inl (g 0, 8, .inl FX)), (st_node, .inl (g 0, 8, .inl stn)), (st_index, .inl (g 0, 8, .inl sti)), (st_before, .inl (g 0, 8, .inl stb))] H ∧ va_D A [(st, .inr (7, [.ref st_what, .ref st_node, .ref st_index, .ref st_before, .int stc])), (st_what, .inl (g 0, 8, .inl FX)), (st_node, .inl (g 0, 8, .inl stn)), (st_index, .inl (g 0, 8, .inl sti)), (st_before, .inl (g 0, 8, .inl stb))] := ⟨_, rfl, tr_upd h_stw (⟨by decide, by decide⟩ : 0 ≤ (1 : Int32).toInt ∧ (1 : Int32).toInt ≤ 2), hP, hD⟩
    have hP : va_P D vwCl [(st, .inr (7, [.ref st_what, .ref st_node, .ref st_index, .ref st_before, .int stc])), (st_what, .inl (g 0, 8, .inl f_95562)), (st_node, .inl (g 0, 8, .inl stn)), (st_index, .inl (g 0, 8, .inl sti)), (st_before, .inl (g 0, 8, .inl stb))] H := hP
    have hD : va_D A [(st, .inr (7, [.ref st_what, .ref st_node, .ref st_index, .ref st_before, .int stc])), (st_what, .inl (g 0, 8, .inl f_95562)), (st_node, .inl (g 0, 8, .inl stn)), (st_index, .inl (g 0, 8, .inl sti)), (st_before, .inl (g 0, 8, .inl stb))] := hD
    refine lv_aload_n hx hb dX7_add_23 rfl (lv_at hl 0 rfl) ?_
    refine va_get (D := D) (ci := 7) (v := .ref st_node) (C := RX7) (T := TX7) (N := 5) hx hb hts inlX7 hown hK hP 0 rfl rfl 1 (by decide) (hts (Cond.fieldLink RX7 15 "ChanceRings$Steps" "node" "[I") qw_622) (fun _ h9 => h9) rfl dX7_add_24 ?_
    refine lv_aload_n hx hb dX7_add_27 rfl (lv_at hl 0 rfl) ?_
    refine va_get (D := D) (ci := 7) (v := .int stc) (C := RX7) (T := TX7) (N := 5) hx hb hts inlX7 hown hK hP 0 rfl rfl 4 (by decide) (hts (Cond.fieldLink RX7 24 "ChanceRings$Steps" "count" "I") qw_619) (fun _ h9 => h9) rfl dX7_add_28 ?_
    refine lv_iload_n hx hb dX7_add_31 rfl (lv_at hl 2 rfl) ?_
    refine va_iast hx hb hK hP hD hS 2 0 rfl rfl (tr_in h_95560 (by decide) (by decide)) dX7_add_32 (fun H locs hP hD hS => ?_)
    obtain ⟨f_95563, f_95563_e, h_f_95563, hP, hD⟩ : ∃ FX : Nat → Int32, FX = (upd stn (stc : Int32).toNatClampNeg p1) ∧ (∀ j : Nat, 0 ≤ (FX j).toInt ∧ (FX j).toInt ≤ 11) ∧ va_P D vwCl [(st, .inr (7, [.ref st_what, .ref st_node, .ref st_index, .ref st_before, .int stc])), (st_what, .inl (g 0, 8, .inl f_95562)), (st_node, .inl (g 0, 8, .inl FX)), (st_index, .inl (g 0, 8, .inl sti)), (st_before, .inl (g 0, 8, .inl stb))] H ∧ va_D A [(st, .inr (7, [.ref st_what, .ref st_node, .ref st_index, .ref st_before, .int stc])), (st_what, .inl (g 0, 8, .inl f_95562)), (st_node, .inl (g 0, 8, .inl FX)), (st_index, .inl (g 0, 8, .inl sti)), (st_before, .inl (g 0, 8, .inl stb))] := ⟨_, rfl, tr_upd h_stn (tr_w h_p1 (by decide) (by decide)), hP, hD⟩
    have hP : va_P D vwCl [(st, .inr (7, [.ref st_what, .ref st_node, .ref st_index, .ref st_before, .int stc])), (st_what, .inl (g 0, 8, .inl f_95562)), (st_node, .inl (g 0, 8, .inl f_95563)), (st_index, .inl (g 0, 8, .inl sti)), (st_before, .inl (g 0, 8, .inl stb))] H := hP
    have hD : va_D A [(st, .inr (7, [.ref st_what, .ref st_node, .ref st_index, .ref st_before, .int stc])), (st_what, .inl (g 0, 8, .inl f_95562)), (st_node, .inl (g 0, 8, .inl f_95563)), (st_index, .inl (g 0, 8, .inl sti)), (st_before, .inl (g 0, 8, .inl stb))] := hD
    refine lv_aload_n hx hb dX7_add_33 rfl (lv_at hl 0 rfl) ?_
    refine va_get (D := D) (ci := 7) (v := .ref st_index) (C := RX7) (T := TX7) (N := 5) hx hb hts inlX7 hown hK hP 0 rfl rfl 2 (by decide) (hts (Cond.fieldLink RX7 18 "ChanceRings$Steps" "index" "[I") qw_623) (fun _ h9 => h9) rfl dX7_add_34 ?_
    refine lv_aload_n hx hb dX7_add_37 rfl (lv_at hl 0 rfl) ?_
    refine va_get (D := D) (ci := 7) (v := .int stc) (C := RX7) (T := TX7) (N := 5) hx hb hts inlX7 hown hK hP 0 rfl rfl 4 (by decide) (hts (Cond.fieldLink RX7 24 "ChanceRings$Steps" "count" "I") qw_619) (fun _ h9 => h9) rfl dX7_add_38 ?_
    refine lv_iload_n hx hb dX7_add_41 rfl (lv_at hl 3 rfl) ?_
    refine va_iast hx hb hK hP hD hS 3 0 rfl rfl (tr_in h_95560 (by decide) (by decide)) dX7_add_42 (fun H locs hP hD hS => ?_)
    obtain ⟨f_95564, f_95564_e, h_f_95564, hP, hD⟩ : ∃ FX : Nat → Int32, FX = (upd sti (stc : Int32).toNatClampNeg p2) ∧ (∀ j : Nat, 0 ≤ (FX j).toInt ∧ (FX j).toInt ≤ 2) ∧ va_P D vwCl [(st, .inr (7, [.ref st_what, .ref st_node, .ref st_index, .ref st_before, .int stc])), (st_what, .inl (g 0, 8, .inl f_95562)), (st_node, .inl (g 0, 8, .inl f_95563)), (st_index, .inl (g 0, 8, .inl FX)), (st_before, .inl (g 0, 8, .inl stb))] H ∧ va_D A [(st, .inr (7, [.ref st_what, .ref st_node, .ref st_index, .ref st_before, .int stc])), (st_what, .inl (g 0, 8, .inl f_95562)), (st_node, .inl (g 0, 8, .inl f_95563)), (st_index, .inl (g 0, 8, .inl FX)), (st_before, .inl (g 0, 8, .inl stb))] := ⟨_, rfl, tr_upd h_sti (tr_w h_p2 (by decide) (by decide)), hP, hD⟩
    have hP : va_P D vwCl [(st, .inr (7, [.ref st_what, .ref st_node, .ref st_index, .ref st_before, .int stc])), (st_what, .inl (g 0, 8, .inl f_95562)), (st_node, .inl (g 0, 8, .inl f_95563)), (st_index, .inl (g 0, 8, .inl f_95564)), (st_before, .inl (g 0, 8, .inl stb))] H := hP
    have hD : va_D A [(st, .inr (7, [.ref st_what, .ref st_node, .ref st_index, .ref st_before, .int stc])), (st_what, .inl (g 0, 8, .inl f_95562)), (st_node, .inl (g 0, 8, .inl f_95563)), (st_index, .inl (g 0, 8, .inl f_95564)), (st_before, .inl (g 0, 8, .inl stb))] := hD
    refine lv_aload_n hx hb dX7_add_43 rfl (lv_at hl 0 rfl) ?_
    refine va_get (D := D) (ci := 7) (v := .ref st_before) (C := RX7) (T := TX7) (N := 5) hx hb hts inlX7 hown hK hP 0 rfl rfl 3 (by decide) (hts (Cond.fieldLink RX7 21 "ChanceRings$Steps" "before" "[I") qw_624) (fun _ h9 => h9) rfl dX7_add_44 ?_
    refine lv_aload_n hx hb dX7_add_47 rfl (lv_at hl 0 rfl) ?_
    refine va_get (D := D) (ci := 7) (v := .int stc) (C := RX7) (T := TX7) (N := 5) hx hb hts inlX7 hown hK hP 0 rfl rfl 4 (by decide) (hts (Cond.fieldLink RX7 24 "ChanceRings$Steps" "count" "I") qw_619) (fun _ h9 => h9) rfl dX7_add_48 ?_
    refine lv_iload hx hb dX7_add_51 (lv_at hl 4 rfl) ?_
    refine va_iast hx hb hK hP hD hS 4 0 rfl rfl (tr_in h_95560 (by decide) (by decide)) dX7_add_53 (fun H locs hP hD hS => ?_)
    obtain ⟨f_95565, f_95565_e, hP, hD⟩ : ∃ FX : Nat → Int32, FX = (upd stb (stc : Int32).toNatClampNeg p3) ∧ va_P D vwCl [(st, .inr (7, [.ref st_what, .ref st_node, .ref st_index, .ref st_before, .int stc])), (st_what, .inl (g 0, 8, .inl f_95562)), (st_node, .inl (g 0, 8, .inl f_95563)), (st_index, .inl (g 0, 8, .inl f_95564)), (st_before, .inl (g 0, 8, .inl FX))] H ∧ va_D A [(st, .inr (7, [.ref st_what, .ref st_node, .ref st_index, .ref st_before, .int stc])), (st_what, .inl (g 0, 8, .inl f_95562)), (st_node, .inl (g 0, 8, .inl f_95563)), (st_index, .inl (g 0, 8, .inl f_95564)), (st_before, .inl (g 0, 8, .inl FX))] := ⟨_, rfl, hP, hD⟩
    have hP : va_P D vwCl [(st, .inr (7, [.ref st_what, .ref st_node, .ref st_index, .ref st_before, .int stc])), (st_what, .inl (g 0, 8, .inl f_95562)), (st_node, .inl (g 0, 8, .inl f_95563)), (st_index, .inl (g 0, 8, .inl f_95564)), (st_before, .inl (g 0, 8, .inl f_95565))] H := hP
    have hD : va_D A [(st, .inr (7, [.ref st_what, .ref st_node, .ref st_index, .ref st_before, .int stc])), (st_what, .inl (g 0, 8, .inl f_95562)), (st_node, .inl (g 0, 8, .inl f_95563)), (st_index, .inl (g 0, 8, .inl f_95564)), (st_before, .inl (g 0, 8, .inl f_95565))] := hD
    refine lv_aload_n hx hb dX7_add_54 rfl (lv_at hl 0 rfl) ?_
    refine lv_dup hx hb dX7_add_55 rfl ?_
    refine va_get (D := D) (ci := 7) (v := .int stc) (C := RX7) (T := TX7) (N := 5) hx hb hts inlX7 hown hK hP 0 rfl rfl 4 (by decide) (hts (Cond.fieldLink RX7 24 "ChanceRings$Steps" "count" "I") qw_619) (fun _ h9 => h9) rfl dX7_add_56 ?_
    refine lv_iconst (v := 1) hx hb dX7_add_59 (by decide) ?_
    refine lv_iadd hx hb dX7_add_60 ?_
    refine lv_topi (fun v_95566 v_95566_e => ?_)
    have h_v_95566 : 1 ≤ (v_95566 : Int32).toInt ∧ (v_95566 : Int32).toInt ≤ 8 := by rw [v_95566_e]; exact tr_add h_95560 (⟨by decide, by decide⟩ : 1 ≤ (1 : Int32).toInt ∧ (1 : Int32).toInt ≤ 1) (by decide) (by decide) (by decide) (by decide)
    have q_v_95566 : v_95566.toInt = stc.toInt + 1 := by rw [v_95566_e]; exact tr_addE h_95560 (⟨by decide, by decide⟩ : 1 ≤ (1 : Int32).toInt ∧ (1 : Int32).toInt ≤ 1) (by decide) (by decide)
    refine va_put (D := D) (ci := 7) (v := .int v_95566) (ty := .int) (C := RX7) (T := TX7) (N := 5) hx hb hts inlX7 tyX7 tyX7_ok nmX7 hown hK hP hD hS 0 rfl rfl 4 (by decide) (hts (Cond.fieldLink RX7 24 "ChanceRings$Steps" "count" "I") qw_619) (fun _ h9 => h9) rfl (by decide +kernel) rfl rfl (Nat.le_of_ble_eq_true rfl) dX7_add_61 (fun H locs hP hD hS => ?_)
    have hP : va_P D vwCl [(st, .inr (7, [.ref st_what, .ref st_node, .ref st_index, .ref st_before, .int v_95566])), (st_what, .inl (g 0, 8, .inl f_95562)), (st_node, .inl (g 0, 8, .inl f_95563)), (st_index, .inl (g 0, 8, .inl f_95564)), (st_before, .inl (g 0, 8, .inl f_95565))] H := hP
    have hD : va_D A [(st, .inr (7, [.ref st_what, .ref st_node, .ref st_index, .ref st_before, .int v_95566])), (st_what, .inl (g 0, 8, .inl f_95562)), (st_node, .inl (g 0, 8, .inl f_95563)), (st_index, .inl (g 0, 8, .inl f_95564)), (st_before, .inl (g 0, 8, .inl f_95565))] := hD
    have hP9 := hP.sub (ws' := [(st, .inr (7, [.ref st_what, .ref st_node, .ref st_index, .ref st_before, .int v_95566])), (st_what, .inl (g 0, 8, .inl f_95562)), (st_node, .inl (g 0, 8, .inl f_95563)), (st_index, .inl (g 0, 8, .inl f_95564)), (st_before, .inl (g 0, 8, .inl f_95565))]) [0, 1, 2, 3, 4] rfl
    have hD9 := hD.sub (ws' := [(st, .inr (7, [.ref st_what, .ref st_node, .ref st_index, .ref st_before, .int v_95566])), (st_what, .inl (g 0, 8, .inl f_95562)), (st_node, .inl (g 0, 8, .inl f_95563)), (st_index, .inl (g 0, 8, .inl f_95564)), (st_before, .inl (g 0, 8, .inl f_95565))]) [0, 1, 2, 3, 4] (by decide) rfl
    exact W.vret hx hb hr (fun t ht hW => ⟨⟨(), rfl, trivial, v_95566, f_95562, f_95563, f_95564, f_95565, (tr_w h_v_95566 (by decide) (by decide)), (tr_wa h_f_95562 (by decide) (by decide)), (tr_wa h_f_95563 (by decide) (by decide)), (tr_wa h_f_95564 (by decide) (by decide)), (by rw [f_95562_e, f_95565_e]; exact tr_relupd hrel (fun h => absurd h (by decide))), (pus_a f_95562_e (by show Int.toNat _ = _; omega) (by omega) (by have z_8 := tk_8; have z_7 := tk_7; omega) (by have z_8 := tk_8; have z_7 := tk_7; omega)), (pus_a f_95563_e (by show Int.toNat _ = _; omega) (by omega) (by have z_8 := tk_8; have z_7 := tk_7; omega) (by have z_8 := tk_8; have z_7 := tk_7; omega)), (pus_a f_95564_e (by show Int.toNat _ = _; omega) (by omega) (by have z_8 := tk_8; have z_7 := tk_7; omega) (by have z_8 := tk_8; have z_7 := tk_7; omega)), (pus_a f_95565_e (by show Int.toNat _ = _; omega) (by omega) (by have z_8 := tk_8; have z_7 := tk_7; omega) (by have z_8 := tk_8; have z_7 := tk_7; omega)), by rw [ht]; exact hP9, hD9⟩, hS.F ht⟩) hS.2.2 dX7_add_64
  · skip
    have kk_8 := tk_8
    have c_95559_i := Int32.le_iff_toInt_le.mp (Int32.not_lt.mp c_95559)
    have h_95561 : 8 ≤ (stc : Int32).toInt ∧ (stc : Int32).toInt ≤ 8 := nr_le_r (⟨by decide, by decide⟩ : 8 ≤ (8 : Int32).toInt ∧ (8 : Int32).toInt ≤ 8) h_stc c_95559_i (by decide) (by decide)
    refine lv_aload_n hx hb dX7_add_9 rfl (lv_at hl 0 rfl) ?_
    have hPc := hP.sub (ws' := [(st, .inr (7, [.ref st_what, .ref st_node, .ref st_index, .ref st_before, .int stc])), (st_what, .inl (g 0, 8, .inl stw)), (st_node, .inl (g 0, 8, .inl stn)), (st_index, .inl (g 0, 8, .inl sti)), (st_before, .inl (g 0, 8, .inl stb))]) [0, 1, 2, 3, 4] rfl
    have hDc := hD.sub (ws' := [(st, .inr (7, [.ref st_what, .ref st_node, .ref st_index, .ref st_before, .int stc])), (st_what, .inl (g 0, 8, .inl stw)), (st_node, .inl (g 0, 8, .inl stn)), (st_index, .inl (g 0, 8, .inl sti)), (st_before, .inl (g 0, 8, .inl stb))]) [0, 1, 2, 3, 4] (by decide) rfl
    have hFc := va_free (wc := [(st, .inr (7, [.ref st_what, .ref st_node, .ref st_index, .ref st_before, .int stc])), (st_what, .inl (g 0, 8, .inl stw)), (st_node, .inl (g 0, 8, .inl stn)), (st_index, .inl (g 0, 8, .inl sti)), (st_before, .inl (g 0, 8, .inl stb))]) hD hS hA [0, 1, 2, 3, 4] rfl
    refine va_callv (va_runV (As := []) (rest := []) ⟨hx, hb, hml, hown, hts⟩ (c_X7_forgetOldest l D g s.heap.size st st_what st_node st_index st_before stc stw stn sti stb (tr_w h_95561 (by decide) (by decide)) (tr_wa h_stw (by decide) (by decide)) (tr_wa h_stn (by decide) (by decide)) (tr_wa h_sti (by decide) (by decide)) hrel) (cwV 0 hts (tz_gV qw_625 qw_626 qw_627 qw_628 qw_629) rfl rfl rfl (by decide +kernel) ⟨Nat.le_of_ble_eq_true rfl, Nat.le_of_ble_eq_true rfl⟩) ⟨tz_blQ, va_recv hK hPc (ci := 7) (q0 := 0) rfl rfl, tz_preQ hPc hK hDc⟩ rfl rfl hl.1 rfl (lv_room (Nat.le_of_ble_eq_true rfl)) dX7_add_10 ⟨Nat.le_of_ble_eq_true rfl, Nat.le_of_ble_eq_true rfl⟩) hS (fun q _ h => hFc q h) hFc (fun u t H1 locs ht hvm hw hB hz1 hk1 hS => ?_)
    obtain ⟨ostw_95568, ostn_95569, osti_95570, ostb_95571, hf_95572, hf_95573, hf_95574, hf_95575, hf_95576, hf_95577, hf_95578, hf_95579, hP1, hD1⟩ := hB
    rw [ht] at hP1
    obtain ⟨hP, hD⟩ := va_join (wr := []) (w1 := [(st, .inr (7, [.ref st_what, .ref st_node, .ref st_index, .ref st_before, .int 7])), (st_what, .inl (g 0, 8, .inl ostw_95568)), (st_node, .inl (g 0, 8, .inl ostn_95569)), (st_index, .inl (g 0, 8, .inl osti_95570)), (st_before, .inl (g 0, 8, .inl ostb_95571))]) hP hD [0, 1, 2, 3, 4] [] rfl rfl (by decide) (by decide) hk1 hFc hP1 hD1
    generalize H1 = H at hP hS ⊢
    have hP : va_P D vwCl [(st, .inr (7, [.ref st_what, .ref st_node, .ref st_index, .ref st_before, .int 7])), (st_what, .inl (g 0, 8, .inl ostw_95568)), (st_node, .inl (g 0, 8, .inl ostn_95569)), (st_index, .inl (g 0, 8, .inl osti_95570)), (st_before, .inl (g 0, 8, .inl ostb_95571))] H := hP
    have hD : va_D A [(st, .inr (7, [.ref st_what, .ref st_node, .ref st_index, .ref st_before, .int 7])), (st_what, .inl (g 0, 8, .inl ostw_95568)), (st_node, .inl (g 0, 8, .inl ostn_95569)), (st_index, .inl (g 0, 8, .inl osti_95570)), (st_before, .inl (g 0, 8, .inl ostb_95571))] := hD
    refine lv_aload_n hx hb dX7_add_13 rfl (lv_at hl 0 rfl) ?_
    refine va_get (D := D) (ci := 7) (v := .ref st_what) (C := RX7) (T := TX7) (N := 5) hx hb hts inlX7 hown hK hP 0 rfl rfl 0 (by decide) (hts (Cond.fieldLink RX7 9 "ChanceRings$Steps" "what" "[I") qw_620) (fun _ h9 => h9) rfl dX7_add_14 ?_
    refine lv_aload_n hx hb dX7_add_17 rfl (lv_at hl 0 rfl) ?_
    refine va_get (D := D) (ci := 7) (v := .int 7) (C := RX7) (T := TX7) (N := 5) hx hb hts inlX7 hown hK hP 0 rfl rfl 4 (by decide) (hts (Cond.fieldLink RX7 24 "ChanceRings$Steps" "count" "I") qw_619) (fun _ h9 => h9) rfl dX7_add_18 ?_
    refine lv_iload_n hx hb dX7_add_21 rfl (lv_at hl 1 rfl) ?_
    refine va_iast hx hb hK hP hD hS 1 0 rfl rfl (tz_in (by decide +kernel)) dX7_add_22 (fun H locs hP hD hS => ?_)
    obtain ⟨f_95580, f_95580_e, h_f_95580, hP, hD⟩ : ∃ FX : Nat → Int32, FX = (upd ostw_95568 (7 : Int32).toNatClampNeg 1) ∧ (∀ j : Nat, 0 ≤ (FX j).toInt ∧ (FX j).toInt ≤ 2) ∧ va_P D vwCl [(st, .inr (7, [.ref st_what, .ref st_node, .ref st_index, .ref st_before, .int 7])), (st_what, .inl (g 0, 8, .inl FX)), (st_node, .inl (g 0, 8, .inl ostn_95569)), (st_index, .inl (g 0, 8, .inl osti_95570)), (st_before, .inl (g 0, 8, .inl ostb_95571))] H ∧ va_D A [(st, .inr (7, [.ref st_what, .ref st_node, .ref st_index, .ref st_before, .int 7])), (st_what, .inl (g 0, 8, .inl FX)), (st_node, .inl (g 0, 8, .inl ostn_95569)), (st_index, .inl (g 0, 8, .inl osti_95570)), (st_before, .inl (g 0, 8, .inl ostb_95571))] := ⟨_, rfl, tr_upd hf_95572 (⟨by decide, by decide⟩ : 0 ≤ (1 : Int32).toInt ∧ (1 : Int32).toInt ≤ 2), hP, hD⟩
    have hP : va_P D vwCl [(st, .inr (7, [.ref st_what, .ref st_node, .ref st_index, .ref st_before, .int 7])), (st_what, .inl (g 0, 8, .inl f_95580)), (st_node, .inl (g 0, 8, .inl ostn_95569)), (st_index, .inl (g 0, 8, .inl osti_95570)), (st_before, .inl (g 0, 8, .inl ostb_95571))] H := hP
    have hD : va_D A [(st, .inr (7, [.ref st_what, .ref st_node, .ref st_index, .ref st_before, .int 7])), (st_what, .inl (g 0, 8, .inl f_95580)), (st_node, .inl (g 0, 8, .inl ostn_95569)), (st_index, .inl (g 0, 8, .inl osti_95570)), (st_before, .inl (g 0, 8, .inl ostb_95571))] := hD
    refine lv_aload_n hx hb dX7_add_23 rfl (lv_at hl 0 rfl) ?_
    refine va_get (D := D) (ci := 7) (v := .ref st_node) (C := RX7) (T := TX7) (N := 5) hx hb hts inlX7 hown hK hP 0 rfl rfl 1 (by decide) (hts (Cond.fieldLink RX7 15 "ChanceRings$Steps" "node" "[I") qw_622) (fun _ h9 => h9) rfl dX7_add_24 ?_
    refine lv_aload_n hx hb dX7_add_27 rfl (lv_at hl 0 rfl) ?_
    refine va_get (D := D) (ci := 7) (v := .int 7) (C := RX7) (T := TX7) (N := 5) hx hb hts inlX7 hown hK hP 0 rfl rfl 4 (by decide) (hts (Cond.fieldLink RX7 24 "ChanceRings$Steps" "count" "I") qw_619) (fun _ h9 => h9) rfl dX7_add_28 ?_
    refine lv_iload_n hx hb dX7_add_31 rfl (lv_at hl 2 rfl) ?_
    refine va_iast hx hb hK hP hD hS 2 0 rfl rfl (tz_in (by decide +kernel)) dX7_add_32 (fun H locs hP hD hS => ?_)
    obtain ⟨f_95581, f_95581_e, h_f_95581, hP, hD⟩ : ∃ FX : Nat → Int32, FX = (upd ostn_95569 (7 : Int32).toNatClampNeg p1) ∧ (∀ j : Nat, 0 ≤ (FX j).toInt ∧ (FX j).toInt ≤ 11) ∧ va_P D vwCl [(st, .inr (7, [.ref st_what, .ref st_node, .ref st_index, .ref st_before, .int 7])), (st_what, .inl (g 0, 8, .inl f_95580)), (st_node, .inl (g 0, 8, .inl FX)), (st_index, .inl (g 0, 8, .inl osti_95570)), (st_before, .inl (g 0, 8, .inl ostb_95571))] H ∧ va_D A [(st, .inr (7, [.ref st_what, .ref st_node, .ref st_index, .ref st_before, .int 7])), (st_what, .inl (g 0, 8, .inl f_95580)), (st_node, .inl (g 0, 8, .inl FX)), (st_index, .inl (g 0, 8, .inl osti_95570)), (st_before, .inl (g 0, 8, .inl ostb_95571))] := ⟨_, rfl, tr_upd hf_95573 (tr_w h_p1 (by decide) (by decide)), hP, hD⟩
    have hP : va_P D vwCl [(st, .inr (7, [.ref st_what, .ref st_node, .ref st_index, .ref st_before, .int 7])), (st_what, .inl (g 0, 8, .inl f_95580)), (st_node, .inl (g 0, 8, .inl f_95581)), (st_index, .inl (g 0, 8, .inl osti_95570)), (st_before, .inl (g 0, 8, .inl ostb_95571))] H := hP
    have hD : va_D A [(st, .inr (7, [.ref st_what, .ref st_node, .ref st_index, .ref st_before, .int 7])), (st_what, .inl (g 0, 8, .inl f_95580)), (st_node, .inl (g 0, 8, .inl f_95581)), (st_index, .inl (g 0, 8, .inl osti_95570)), (st_before, .inl (g 0, 8, .inl ostb_95571))] := hD
    refine lv_aload_n hx hb dX7_add_33 rfl (lv_at hl 0 rfl) ?_
    refine va_get (D := D) (ci := 7) (v := .ref st_index) (C := RX7) (T := TX7) (N := 5) hx hb hts inlX7 hown hK hP 0 rfl rfl 2 (by decide) (hts (Cond.fieldLink RX7 18 "ChanceRings$Steps" "index" "[I") qw_623) (fun _ h9 => h9) rfl dX7_add_34 ?_
    refine lv_aload_n hx hb dX7_add_37 rfl (lv_at hl 0 rfl) ?_
    refine va_get (D := D) (ci := 7) (v := .int 7) (C := RX7) (T := TX7) (N := 5) hx hb hts inlX7 hown hK hP 0 rfl rfl 4 (by decide) (hts (Cond.fieldLink RX7 24 "ChanceRings$Steps" "count" "I") qw_619) (fun _ h9 => h9) rfl dX7_add_38 ?_
    refine lv_iload_n hx hb dX7_add_41 rfl (lv_at hl 3 rfl) ?_
    refine va_iast hx hb hK hP hD hS 3 0 rfl rfl (tz_in (by decide +kernel)) dX7_add_42 (fun H locs hP hD hS => ?_)
    obtain ⟨f_95582, f_95582_e, h_f_95582, hP, hD⟩ : ∃ FX : Nat → Int32, FX = (upd osti_95570 (7 : Int32).toNatClampNeg p2) ∧ (∀ j : Nat, 0 ≤ (FX j).toInt ∧ (FX j).toInt ≤ 2) ∧ va_P D vwCl [(st, .inr (7, [.ref st_what, .ref st_node, .ref st_index, .ref st_before, .int 7])), (st_what, .inl (g 0, 8, .inl f_95580)), (st_node, .inl (g 0, 8, .inl f_95581)), (st_index, .inl (g 0, 8, .inl FX)), (st_before, .inl (g 0, 8, .inl ostb_95571))] H ∧ va_D A [(st, .inr (7, [.ref st_what, .ref st_node, .ref st_index, .ref st_before, .int 7])), (st_what, .inl (g 0, 8, .inl f_95580)), (st_node, .inl (g 0, 8, .inl f_95581)), (st_index, .inl (g 0, 8, .inl FX)), (st_before, .inl (g 0, 8, .inl ostb_95571))] := ⟨_, rfl, tr_upd hf_95574 (tr_w h_p2 (by decide) (by decide)), hP, hD⟩
    have hP : va_P D vwCl [(st, .inr (7, [.ref st_what, .ref st_node, .ref st_index, .ref st_before, .int 7])), (st_what, .inl (g 0, 8, .inl f_95580)), (st_node, .inl (g 0, 8, .inl f_95581)), (st_index, .inl (g 0, 8, .inl f_95582)), (st_before, .inl (g 0, 8, .inl ostb_95571))] H := hP
    have hD : va_D A [(st, .inr (7, [.ref st_what, .ref st_node, .ref st_index, .ref st_before, .int 7])), (st_what, .inl (g 0, 8, .inl f_95580)), (st_node, .inl (g 0, 8, .inl f_95581)), (st_index, .inl (g 0, 8, .inl f_95582)), (st_before, .inl (g 0, 8, .inl ostb_95571))] := hD
    refine lv_aload_n hx hb dX7_add_43 rfl (lv_at hl 0 rfl) ?_
    refine va_get (D := D) (ci := 7) (v := .ref st_before) (C := RX7) (T := TX7) (N := 5) hx hb hts inlX7 hown hK hP 0 rfl rfl 3 (by decide) (hts (Cond.fieldLink RX7 21 "ChanceRings$Steps" "before" "[I") qw_624) (fun _ h9 => h9) rfl dX7_add_44 ?_
    refine lv_aload_n hx hb dX7_add_47 rfl (lv_at hl 0 rfl) ?_
    refine va_get (D := D) (ci := 7) (v := .int 7) (C := RX7) (T := TX7) (N := 5) hx hb hts inlX7 hown hK hP 0 rfl rfl 4 (by decide) (hts (Cond.fieldLink RX7 24 "ChanceRings$Steps" "count" "I") qw_619) (fun _ h9 => h9) rfl dX7_add_48 ?_
    refine lv_iload hx hb dX7_add_51 (lv_at hl 4 rfl) ?_
    refine va_iast hx hb hK hP hD hS 4 0 rfl rfl (tz_in (by decide +kernel)) dX7_add_53 (fun H locs hP hD hS => ?_)
    obtain ⟨f_95583, f_95583_e, hP, hD⟩ : ∃ FX : Nat → Int32, FX = (upd ostb_95571 (7 : Int32).toNatClampNeg p3) ∧ va_P D vwCl [(st, .inr (7, [.ref st_what, .ref st_node, .ref st_index, .ref st_before, .int 7])), (st_what, .inl (g 0, 8, .inl f_95580)), (st_node, .inl (g 0, 8, .inl f_95581)), (st_index, .inl (g 0, 8, .inl f_95582)), (st_before, .inl (g 0, 8, .inl FX))] H ∧ va_D A [(st, .inr (7, [.ref st_what, .ref st_node, .ref st_index, .ref st_before, .int 7])), (st_what, .inl (g 0, 8, .inl f_95580)), (st_node, .inl (g 0, 8, .inl f_95581)), (st_index, .inl (g 0, 8, .inl f_95582)), (st_before, .inl (g 0, 8, .inl FX))] := ⟨_, rfl, hP, hD⟩
    have hP : va_P D vwCl [(st, .inr (7, [.ref st_what, .ref st_node, .ref st_index, .ref st_before, .int 7])), (st_what, .inl (g 0, 8, .inl f_95580)), (st_node, .inl (g 0, 8, .inl f_95581)), (st_index, .inl (g 0, 8, .inl f_95582)), (st_before, .inl (g 0, 8, .inl f_95583))] H := hP
    have hD : va_D A [(st, .inr (7, [.ref st_what, .ref st_node, .ref st_index, .ref st_before, .int 7])), (st_what, .inl (g 0, 8, .inl f_95580)), (st_node, .inl (g 0, 8, .inl f_95581)), (st_index, .inl (g 0, 8, .inl f_95582)), (st_before, .inl (g 0, 8, .inl f_95583))] := hD
    refine lv_aload_n hx hb dX7_add_54 rfl (lv_at hl 0 rfl) ?_
    refine lv_dup hx hb dX7_add_55 rfl ?_
    refine va_get (D := D) (ci := 7) (v := .int 7) (C := RX7) (T := TX7) (N := 5) hx hb hts inlX7 hown hK hP 0 rfl rfl 4 (by decide) (hts (Cond.fieldLink RX7 24 "ChanceRings$Steps" "count" "I") qw_619) (fun _ h9 => h9) rfl dX7_add_56 ?_
    refine lv_iconst (v := 1) hx hb dX7_add_59 (by decide) ?_
    refine lv_iadd hx hb dX7_add_60 ?_
    refine tz_i (y := 8) (by decide +kernel) ?_
    refine va_put (D := D) (ci := 7) (v := .int 8) (ty := .int) (C := RX7) (T := TX7) (N := 5) hx hb hts inlX7 tyX7 tyX7_ok nmX7 hown hK hP hD hS 0 rfl rfl 4 (by decide) (hts (Cond.fieldLink RX7 24 "ChanceRings$Steps" "count" "I") qw_619) (fun _ h9 => h9) rfl (by decide +kernel) rfl rfl (Nat.le_of_ble_eq_true rfl) dX7_add_61 (fun H locs hP hD hS => ?_)
    have hP : va_P D vwCl [(st, .inr (7, [.ref st_what, .ref st_node, .ref st_index, .ref st_before, .int 8])), (st_what, .inl (g 0, 8, .inl f_95580)), (st_node, .inl (g 0, 8, .inl f_95581)), (st_index, .inl (g 0, 8, .inl f_95582)), (st_before, .inl (g 0, 8, .inl f_95583))] H := hP
    have hD : va_D A [(st, .inr (7, [.ref st_what, .ref st_node, .ref st_index, .ref st_before, .int 8])), (st_what, .inl (g 0, 8, .inl f_95580)), (st_node, .inl (g 0, 8, .inl f_95581)), (st_index, .inl (g 0, 8, .inl f_95582)), (st_before, .inl (g 0, 8, .inl f_95583))] := hD
    have hP9 := hP.sub (ws' := [(st, .inr (7, [.ref st_what, .ref st_node, .ref st_index, .ref st_before, .int 8])), (st_what, .inl (g 0, 8, .inl f_95580)), (st_node, .inl (g 0, 8, .inl f_95581)), (st_index, .inl (g 0, 8, .inl f_95582)), (st_before, .inl (g 0, 8, .inl f_95583))]) [0, 1, 2, 3, 4] rfl
    have hD9 := hD.sub (ws' := [(st, .inr (7, [.ref st_what, .ref st_node, .ref st_index, .ref st_before, .int 8])), (st_what, .inl (g 0, 8, .inl f_95580)), (st_node, .inl (g 0, 8, .inl f_95581)), (st_index, .inl (g 0, 8, .inl f_95582)), (st_before, .inl (g 0, 8, .inl f_95583))]) [0, 1, 2, 3, 4] (by decide) rfl
    exact W.vret hx hb hr (fun t ht hW => ⟨⟨(), rfl, trivial, 8, f_95580, f_95581, f_95582, f_95583, (⟨by decide, by decide⟩ : 0 ≤ (8 : Int32).toInt ∧ (8 : Int32).toInt ≤ 8), (tr_wa h_f_95580 (by decide) (by decide)), (tr_wa h_f_95581 (by decide) (by decide)), (tr_wa h_f_95582 (by decide) (by decide)), (by rw [f_95580_e, f_95583_e]; exact tr_relupd hf_95575 (fun h => absurd h (by decide))), (pus_b hf_95576 f_95580_e (by decide) (by have z_8 := tk_8; have z_7 := tk_7; (first | (clear h_p1 h_p2 h_stc c_95559_i h_95561; omega) | omega)) (by have z_8 := tk_8; have z_7 := tk_7; (first | (clear h_p1 h_p2 h_stc c_95559_i h_95561; omega) | omega))), (pus_b hf_95577 f_95581_e (by decide) (by have z_8 := tk_8; have z_7 := tk_7; (first | (clear h_p1 h_p2 h_stc c_95559_i h_95561; omega) | omega)) (by have z_8 := tk_8; have z_7 := tk_7; (first | (clear h_p1 h_p2 h_stc c_95559_i h_95561; omega) | omega))), (pus_b hf_95578 f_95582_e (by decide) (by have z_8 := tk_8; have z_7 := tk_7; (first | (clear h_p1 h_p2 h_stc c_95559_i h_95561; omega) | omega)) (by have z_8 := tk_8; have z_7 := tk_7; (first | (clear h_p1 h_p2 h_stc c_95559_i h_95561; omega) | omega))), (pus_b hf_95579 f_95583_e (by decide) (by have z_8 := tk_8; have z_7 := tk_7; (first | (clear h_p1 h_p2 h_stc c_95559_i h_95561; omega) | omega)) (by have z_8 := tk_8; have z_7 := tk_7; (first | (clear h_p1 h_p2 h_stc c_95559_i h_95561; omega) | omega))), by rw [ht]; exact hP9, hD9⟩, hS.F ht⟩) hS.2.2 dX7_add_64
set_option maxHeartbeats 4000000 in
set_option maxRecDepth 100000 in
theorem c_X7_add2 (l : Launch) (D : va_G) (g : Nat → ClassId) (sz : Nat) (st : Nat) (p1 : Int32) (p2 : Int32) (p3 : Int32) (st_what : Nat) (st_node : Nat) (st_index : Nat) (st_before : Nat) (stc : Int32) (stw : Nat → Int32) (stn : Nat → Int32) (sti : Nat → Int32) (stb : Nat → Int32) (h_p1 : 0 ≤ (p1 : Int32).toInt ∧ (p1 : Int32).toInt ≤ 11) (h_p2 : 0 ≤ (p2 : Int32).toInt ∧ (p2 : Int32).toInt ≤ 2) (h_stc : 0 ≤ (stc : Int32).toInt ∧ (stc : Int32).toInt ≤ 8) (h_stw : ∀ j : Nat, 0 ≤ (stw j).toInt ∧ (stw j).toInt ≤ 2) (h_stn : ∀ j : Nat, 0 ≤ (stn j).toInt ∧ (stn j).toInt ≤ 11) (h_sti : ∀ j : Nat, 0 ≤ (sti j).toInt ∧ (sti j).toInt ≤ 2) (hrel : ∀ j : Nat, stw j = 0 → -1 ≤ (stb j).toInt ∧ (stb j).toInt ≤ 2) : Met l yX7_add (.code yX7_add cX7_add 5 none :: wsL_law) ({ frames := 2, cells := 0, slots := 0, locals := 80 }) (va_Pc [.ref st, .int 2, .int p1, .int p2, .int p3] (fun U => U.heap.size = sz ∧ va_P D vwCl [(st, .inr (7, [.ref st_what, .ref st_node, .ref st_index, .ref st_before, .int stc])), (st_what, .inl (g 0, 8, .inl stw)), (st_node, .inl (g 0, 8, .inl stn)), (st_index, .inl (g 0, 8, .inl sti)), (st_before, .inl (g 0, 8, .inl stb))] U.heap ∧ va_K D vwCl (TY g) U ∧ va_D (fun _ => True) [(st, .inr (7, [.ref st_what, .ref st_node, .ref st_index, .ref st_before, .int stc])), (st_what, .inl (g 0, 8, .inl stw)), (st_node, .inl (g 0, 8, .inl stn)), (st_index, .inl (g 0, 8, .inl sti)), (st_before, .inl (g 0, 8, .inl stb))])) (va_Qv (fun (_ : Unit) => True) (fun _ t => ∃ ostc : Int32, ∃ ostw : Nat → Int32, ∃ ostn : Nat → Int32, ∃ osti : Nat → Int32, ∃ ostb : Nat → Int32, (0 ≤ (ostc : Int32).toInt ∧ (ostc : Int32).toInt ≤ 8) ∧ (∀ j : Nat, 0 ≤ (ostw j).toInt ∧ (ostw j).toInt ≤ 2) ∧ (∀ j : Nat, 0 ≤ (ostn j).toInt ∧ (ostn j).toInt ≤ 11) ∧ (∀ j : Nat, 0 ≤ (osti j).toInt ∧ (osti j).toInt ≤ 2) ∧ (∀ j : Nat, ostw j = 0 → -1 ≤ (ostb j).toInt ∧ (ostb j).toInt ≤ 2) ∧ (PUs (stc : Int32).toInt (ostc : Int32).toInt stw ostw (2 : Int32)) ∧ (PUs (stc : Int32).toInt (ostc : Int32).toInt stn ostn p1) ∧ (PUs (stc : Int32).toInt (ostc : Int32).toInt sti osti p2) ∧ (PUs (stc : Int32).toInt (ostc : Int32).toInt stb ostb p3) ∧ va_P D vwCl [(st, .inr (7, [.ref st_what, .ref st_node, .ref st_index, .ref st_before, .int ostc])), (st_what, .inl (g 0, 8, .inl ostw)), (st_node, .inl (g 0, 8, .inl ostn)), (st_index, .inl (g 0, 8, .inl osti)), (st_before, .inl (g 0, 8, .inl ostb))] t.heap ∧ va_D (va_A [(st, .inr (7, [.ref st_what, .ref st_node, .ref st_index, .ref st_before, .int stc])), (st_what, .inl (g 0, 8, .inl stw)), (st_node, .inl (g 0, 8, .inl stn)), (st_index, .inl (g 0, 8, .inl sti)), (st_before, .inl (g 0, 8, .inl stb))] sz) [(st, .inr (7, [.ref st_what, .ref st_node, .ref st_index, .ref st_before, .int ostc])), (st_what, .inl (g 0, 8, .inl ostw)), (st_node, .inl (g 0, 8, .inl ostn)), (st_index, .inl (g 0, 8, .inl osti)), (st_before, .inl (g 0, 8, .inl ostb))]) (va_A [(st, .inr (7, [.ref st_what, .ref st_node, .ref st_index, .ref st_before, .int stc])), (st_what, .inl (g 0, 8, .inl stw)), (st_node, .inl (g 0, 8, .inl stn)), (st_index, .inl (g 0, 8, .inl sti)), (st_before, .inl (g 0, 8, .inl stb))] sz)) 0 0 (va_A [(st, .inr (7, [.ref st_what, .ref st_node, .ref st_index, .ref st_before, .int stc])), (st_what, .inl (g 0, 8, .inl stw)), (st_node, .inl (g 0, 8, .inl stn)), (st_index, .inl (g 0, 8, .inl sti)), (st_before, .inl (g 0, 8, .inl stb))] sz) := by
  refine Met.ofW (cc := cX7_add) (maxL := 5) (ret := none) (by decide) rfl ?_
  intro p e s m args below meth c s₁ B hml hv
  obtain ⟨ha, hsz, hP, hK, hD0⟩ := hv
  have hx := B.exec
  have hb := B.bytes
  have hr := B.returns
  have hts0 := atoms_spec (ws := (.code yX7_add cX7_add 5 none :: wsL_law)) B.pre
  have hts : ∀ w ∈ wsL_law, w.before args s = true := fun w h => hts0 w (List.mem_cons_of_mem _ h)
  have hown : s.vm.findClass RX7 = some m.cls := findClass_of_methodNamed B.named
  have hlocks := B.notSynchronized
  subst hsz
  have hD := hD0.self (sz := s.heap.size)
  generalize hAe : va_A [(st, .inr (7, [.ref st_what, .ref st_node, .ref st_index, .ref st_before, .int stc])), (st_what, .inl (g 0, 8, .inl stw)), (st_node, .inl (g 0, 8, .inl stn)), (st_index, .inl (g 0, 8, .inl sti)), (st_before, .inl (g 0, 8, .inl stb))] s.heap.size = A at hD ⊢
  have hA : ∀ q : Nat, s.heap.size ≤ q → A q := fun q h => by rw [← hAe]; exact Or.inr h
  have hS : va_S A s.heap s.heap [] := va_S.rf
  have hP : va_P D vwCl [(st, .inr (7, [.ref st_what, .ref st_node, .ref st_index, .ref st_before, .int stc])), (st_what, .inl (g 0, 8, .inl stw)), (st_node, .inl (g 0, 8, .inl stn)), (st_index, .inl (g 0, 8, .inl sti)), (st_before, .inl (g 0, 8, .inl stb))] s.heap := hP
  refine W.eq (g2 := entryFrame m ([.ref st, .int 2, .int p1, .int p2, .int p3] : List Value).toArray 5) (by rw [ha]) ?_
  have hl := lv_entry ([.ref st, .int 2, .int p1, .int p2, .int p3]) (n := 5) (Nat.le_of_ble_eq_true rfl)
  rw [lg_entry_eq]
  generalize (lg_sl ([.ref st, .int 2, .int p1, .int p2, .int p3]) ++ List.replicate (5 - (lg_sl ([.ref st, .int 2, .int p1, .int p2, .int p3])).length) Slot.unset).toArray = ls at hl ⊢
  have hl : lv_has ls 5 [(0, .ref st), (1, .int 2), (2, .int p1), (3, .int p2), (4, .int p3)] := hl
  refine lv_aload_n hx hb dX7_add_0 rfl (lv_at hl 0 rfl) ?_
  refine va_get (D := D) (ci := 7) (v := .int stc) (C := RX7) (T := TX7) (N := 5) hx hb hts inlX7 hown hK hP 0 rfl rfl 4 (by decide) (hts (Cond.fieldLink RX7 24 "ChanceRings$Steps" "count" "I") qw_619) (fun _ h9 => h9) rfl dX7_add_1 ?_
  refine lv_bipush (v := 8) hx hb dX7_add_4 (by decide) ?_
  refine lv_icmp_lt (tgt := 13) hx hb dX7_add_6 (by decide) (fun c_95584 => ?_) (fun c_95584 => ?_)
  · skip
    have kk_8 := tk_8
    have c_95584_i := Int32.lt_iff_toInt_lt.mp c_95584
    have h_95585 : 0 ≤ (stc : Int32).toInt ∧ (stc : Int32).toInt ≤ 7 := nr_lt_l h_stc (⟨by decide, by decide⟩ : 8 ≤ (8 : Int32).toInt ∧ (8 : Int32).toInt ≤ 8) c_95584_i (by decide) (by decide)
    refine lv_aload_n hx hb dX7_add_13 rfl (lv_at hl 0 rfl) ?_
    refine va_get (D := D) (ci := 7) (v := .ref st_what) (C := RX7) (T := TX7) (N := 5) hx hb hts inlX7 hown hK hP 0 rfl rfl 0 (by decide) (hts (Cond.fieldLink RX7 9 "ChanceRings$Steps" "what" "[I") qw_620) (fun _ h9 => h9) rfl dX7_add_14 ?_
    refine lv_aload_n hx hb dX7_add_17 rfl (lv_at hl 0 rfl) ?_
    refine va_get (D := D) (ci := 7) (v := .int stc) (C := RX7) (T := TX7) (N := 5) hx hb hts inlX7 hown hK hP 0 rfl rfl 4 (by decide) (hts (Cond.fieldLink RX7 24 "ChanceRings$Steps" "count" "I") qw_619) (fun _ h9 => h9) rfl dX7_add_18 ?_
    refine lv_iload_n hx hb dX7_add_21 rfl (lv_at hl 1 rfl) ?_
    refine va_iast hx hb hK hP hD hS 1 0 rfl rfl (tr_in h_95585 (by decide) (by decide)) dX7_add_22 (fun H locs hP hD hS => ?_)
    obtain ⟨f_95587, f_95587_e, h_f_95587, hP, hD⟩ : ∃ FX : Nat → Int32, FX = (upd stw (stc : Int32).toNatClampNeg 2) ∧ (∀ j : Nat, 0 ≤ (FX j).toInt ∧ (FX j).toInt ≤ 2) ∧ va_P D vwCl [(st, .inr (7, [.ref st_what, .ref st_node, .ref st_index, .ref st_before, .int stc])), (st_what, .inl (g 0, 8, .inl FX)), (st_node, .inl (g 0, 8, .inl stn)), (st_index, .inl (g 0, 8, .inl sti)), (st_before, .inl (g 0, 8, .inl stb))] H ∧ va_D A [(st, .inr (7, [.ref st_what, .ref st_node, .ref st_index, .ref st_before, .int stc])), (st_what, .inl (g 0, 8, .inl FX)), (st_node, .inl (g 0, 8, .inl stn)), (st_index, .inl (g 0, 8, .inl sti)), (st_before, .inl (g 0, 8, .inl stb))] := ⟨_, rfl, tr_upd h_stw (⟨by decide, by decide⟩ : 0 ≤ (2 : Int32).toInt ∧ (2 : Int32).toInt ≤ 2), hP, hD⟩
    have hP : va_P D vwCl [(st, .inr (7, [.ref st_what, .ref st_node, .ref st_index, .ref st_before, .int stc])), (st_what, .inl (g 0, 8, .inl f_95587)), (st_node, .inl (g 0, 8, .inl stn)), (st_index, .inl (g 0, 8, .inl sti)), (st_before, .inl (g 0, 8, .inl stb))] H := hP
    have hD : va_D A [(st, .inr (7, [.ref st_what, .ref st_node, .ref st_index, .ref st_before, .int stc])), (st_what, .inl (g 0, 8, .inl f_95587)), (st_node, .inl (g 0, 8, .inl stn)), (st_index, .inl (g 0, 8, .inl sti)), (st_before, .inl (g 0, 8, .inl stb))] := hD
    refine lv_aload_n hx hb dX7_add_23 rfl (lv_at hl 0 rfl) ?_
    refine va_get (D := D) (ci := 7) (v := .ref st_node) (C := RX7) (T := TX7) (N := 5) hx hb hts inlX7 hown hK hP 0 rfl rfl 1 (by decide) (hts (Cond.fieldLink RX7 15 "ChanceRings$Steps" "node" "[I") qw_622) (fun _ h9 => h9) rfl dX7_add_24 ?_
    refine lv_aload_n hx hb dX7_add_27 rfl (lv_at hl 0 rfl) ?_
    refine va_get (D := D) (ci := 7) (v := .int stc) (C := RX7) (T := TX7) (N := 5) hx hb hts inlX7 hown hK hP 0 rfl rfl 4 (by decide) (hts (Cond.fieldLink RX7 24 "ChanceRings$Steps" "count" "I") qw_619) (fun _ h9 => h9) rfl dX7_add_28 ?_
    refine lv_iload_n hx hb dX7_add_31 rfl (lv_at hl 2 rfl) ?_
    refine va_iast hx hb hK hP hD hS 2 0 rfl rfl (tr_in h_95585 (by decide) (by decide)) dX7_add_32 (fun H locs hP hD hS => ?_)
    obtain ⟨f_95588, f_95588_e, h_f_95588, hP, hD⟩ : ∃ FX : Nat → Int32, FX = (upd stn (stc : Int32).toNatClampNeg p1) ∧ (∀ j : Nat, 0 ≤ (FX j).toInt ∧ (FX j).toInt ≤ 11) ∧ va_P D vwCl [(st, .inr (7, [.ref st_what, .ref st_node, .ref st_index, .ref st_before, .int stc])), (st_what, .inl (g 0, 8, .inl f_95587)), (st_node, .inl (g 0, 8, .inl FX)), (st_index, .inl (g 0, 8, .inl sti)), (st_before, .inl (g 0, 8, .inl stb))] H ∧ va_D A [(st, .inr (7, [.ref st_what, .ref st_node, .ref st_index, .ref st_before, .int stc])), (st_what, .inl (g 0, 8, .inl f_95587)), (st_node, .inl (g 0, 8, .inl FX)), (st_index, .inl (g 0, 8, .inl sti)), (st_before, .inl (g 0, 8, .inl stb))] := ⟨_, rfl, tr_upd h_stn (tr_w h_p1 (by decide) (by decide)), hP, hD⟩
    have hP : va_P D vwCl [(st, .inr (7, [.ref st_what, .ref st_node, .ref st_index, .ref st_before, .int stc])), (st_what, .inl (g 0, 8, .inl f_95587)), (st_node, .inl (g 0, 8, .inl f_95588)), (st_index, .inl (g 0, 8, .inl sti)), (st_before, .inl (g 0, 8, .inl stb))] H := hP
    have hD : va_D A [(st, .inr (7, [.ref st_what, .ref st_node, .ref st_index, .ref st_before, .int stc])), (st_what, .inl (g 0, 8, .inl f_95587)), (st_node, .inl (g 0, 8, .inl f_95588)), (st_index, .inl (g 0, 8, .inl sti)), (st_before, .inl (g 0, 8, .inl stb))] := hD
    refine lv_aload_n hx hb dX7_add_33 rfl (lv_at hl 0 rfl) ?_
    refine va_get (D := D) (ci := 7) (v := .ref st_index) (C := RX7) (T := TX7) (N := 5) hx hb hts inlX7 hown hK hP 0 rfl rfl 2 (by decide) (hts (Cond.fieldLink RX7 18 "ChanceRings$Steps" "index" "[I") qw_623) (fun _ h9 => h9) rfl dX7_add_34 ?_
    refine lv_aload_n hx hb dX7_add_37 rfl (lv_at hl 0 rfl) ?_
    refine va_get (D := D) (ci := 7) (v := .int stc) (C := RX7) (T := TX7) (N := 5) hx hb hts inlX7 hown hK hP 0 rfl rfl 4 (by decide) (hts (Cond.fieldLink RX7 24 "ChanceRings$Steps" "count" "I") qw_619) (fun _ h9 => h9) rfl dX7_add_38 ?_
    refine lv_iload_n hx hb dX7_add_41 rfl (lv_at hl 3 rfl) ?_
    refine va_iast hx hb hK hP hD hS 3 0 rfl rfl (tr_in h_95585 (by decide) (by decide)) dX7_add_42 (fun H locs hP hD hS => ?_)
    obtain ⟨f_95589, f_95589_e, h_f_95589, hP, hD⟩ : ∃ FX : Nat → Int32, FX = (upd sti (stc : Int32).toNatClampNeg p2) ∧ (∀ j : Nat, 0 ≤ (FX j).toInt ∧ (FX j).toInt ≤ 2) ∧ va_P D vwCl [(st, .inr (7, [.ref st_what, .ref st_node, .ref st_index, .ref st_before, .int stc])), (st_what, .inl (g 0, 8, .inl f_95587)), (st_node, .inl (g 0, 8, .inl f_95588)), (st_index, .inl (g 0, 8, .inl FX)), (st_before, .inl (g 0, 8, .inl stb))] H ∧ va_D A [(st, .inr (7, [.ref st_what, .ref st_node, .ref st_index, .ref st_before, .int stc])), (st_what, .inl (g 0, 8, .inl f_95587)), (st_node, .inl (g 0, 8, .inl f_95588)), (st_index, .inl (g 0, 8, .inl FX)), (st_before, .inl (g 0, 8, .inl stb))] := ⟨_, rfl, tr_upd h_sti (tr_w h_p2 (by decide) (by decide)), hP, hD⟩
    have hP : va_P D vwCl [(st, .inr (7, [.ref st_what, .ref st_node, .ref st_index, .ref st_before, .int stc])), (st_what, .inl (g 0, 8, .inl f_95587)), (st_node, .inl (g 0, 8, .inl f_95588)), (st_index, .inl (g 0, 8, .inl f_95589)), (st_before, .inl (g 0, 8, .inl stb))] H := hP
    have hD : va_D A [(st, .inr (7, [.ref st_what, .ref st_node, .ref st_index, .ref st_before, .int stc])), (st_what, .inl (g 0, 8, .inl f_95587)), (st_node, .inl (g 0, 8, .inl f_95588)), (st_index, .inl (g 0, 8, .inl f_95589)), (st_before, .inl (g 0, 8, .inl stb))] := hD
    refine lv_aload_n hx hb dX7_add_43 rfl (lv_at hl 0 rfl) ?_
    refine va_get (D := D) (ci := 7) (v := .ref st_before) (C := RX7) (T := TX7) (N := 5) hx hb hts inlX7 hown hK hP 0 rfl rfl 3 (by decide) (hts (Cond.fieldLink RX7 21 "ChanceRings$Steps" "before" "[I") qw_624) (fun _ h9 => h9) rfl dX7_add_44 ?_
    refine lv_aload_n hx hb dX7_add_47 rfl (lv_at hl 0 rfl) ?_
    refine va_get (D := D) (ci := 7) (v := .int stc) (C := RX7) (T := TX7) (N := 5) hx hb hts inlX7 hown hK hP 0 rfl rfl 4 (by decide) (hts (Cond.fieldLink RX7 24 "ChanceRings$Steps" "count" "I") qw_619) (fun _ h9 => h9) rfl dX7_add_48 ?_
    refine lv_iload hx hb dX7_add_51 (lv_at hl 4 rfl) ?_
    refine va_iast hx hb hK hP hD hS 4 0 rfl rfl (tr_in h_95585 (by decide) (by decide)) dX7_add_53 (fun H locs hP hD hS => ?_)
    obtain ⟨f_95590, f_95590_e, hP, hD⟩ : ∃ FX : Nat → Int32, FX = (upd stb (stc : Int32).toNatClampNeg p3) ∧ va_P D vwCl [(st, .inr (7, [.ref st_what, .ref st_node, .ref st_index, .ref st_before, .int stc])), (st_what, .inl (g 0, 8, .inl f_95587)), (st_node, .inl (g 0, 8, .inl f_95588)), (st_index, .inl (g 0, 8, .inl f_95589)), (st_before, .inl (g 0, 8, .inl FX))] H ∧ va_D A [(st, .inr (7, [.ref st_what, .ref st_node, .ref st_index, .ref st_before, .int stc])), (st_what, .inl (g 0, 8, .inl f_95587)), (st_node, .inl (g 0, 8, .inl f_95588)), (st_index, .inl (g 0, 8, .inl f_95589)), (st_before, .inl (g 0, 8, .inl FX))] := ⟨_, rfl, hP, hD⟩
    have hP : va_P D vwCl [(st, .inr (7, [.ref st_what, .ref st_node, .ref st_index, .ref st_before, .int stc])), (st_what, .inl (g 0, 8, .inl f_95587)), (st_node, .inl (g 0, 8, .inl f_95588)), (st_index, .inl (g 0, 8, .inl f_95589)), (st_before, .inl (g 0, 8, .inl f_95590))] H := hP
    have hD : va_D A [(st, .inr (7, [.ref st_what, .ref st_node, .ref st_index, .ref st_before, .int stc])), (st_what, .inl (g 0, 8, .inl f_95587)), (st_node, .inl (g 0, 8, .inl f_95588)), (st_index, .inl (g 0, 8, .inl f_95589)), (st_before, .inl (g 0, 8, .inl f_95590))] := hD
    refine lv_aload_n hx hb dX7_add_54 rfl (lv_at hl 0 rfl) ?_
    refine lv_dup hx hb dX7_add_55 rfl ?_
    refine va_get (D := D) (ci := 7) (v := .int stc) (C := RX7) (T := TX7) (N := 5) hx hb hts inlX7 hown hK hP 0 rfl rfl 4 (by decide) (hts (Cond.fieldLink RX7 24 "ChanceRings$Steps" "count" "I") qw_619) (fun _ h9 => h9) rfl dX7_add_56 ?_
    refine lv_iconst (v := 1) hx hb dX7_add_59 (by decide) ?_
    refine lv_iadd hx hb dX7_add_60 ?_
    refine lv_topi (fun v_95591 v_95591_e => ?_)
    have h_v_95591 : 1 ≤ (v_95591 : Int32).toInt ∧ (v_95591 : Int32).toInt ≤ 8 := by rw [v_95591_e]; exact tr_add h_95585 (⟨by decide, by decide⟩ : 1 ≤ (1 : Int32).toInt ∧ (1 : Int32).toInt ≤ 1) (by decide) (by decide) (by decide) (by decide)
    have q_v_95591 : v_95591.toInt = stc.toInt + 1 := by rw [v_95591_e]; exact tr_addE h_95585 (⟨by decide, by decide⟩ : 1 ≤ (1 : Int32).toInt ∧ (1 : Int32).toInt ≤ 1) (by decide) (by decide)
    refine va_put (D := D) (ci := 7) (v := .int v_95591) (ty := .int) (C := RX7) (T := TX7) (N := 5) hx hb hts inlX7 tyX7 tyX7_ok nmX7 hown hK hP hD hS 0 rfl rfl 4 (by decide) (hts (Cond.fieldLink RX7 24 "ChanceRings$Steps" "count" "I") qw_619) (fun _ h9 => h9) rfl (by decide +kernel) rfl rfl (Nat.le_of_ble_eq_true rfl) dX7_add_61 (fun H locs hP hD hS => ?_)
    have hP : va_P D vwCl [(st, .inr (7, [.ref st_what, .ref st_node, .ref st_index, .ref st_before, .int v_95591])), (st_what, .inl (g 0, 8, .inl f_95587)), (st_node, .inl (g 0, 8, .inl f_95588)), (st_index, .inl (g 0, 8, .inl f_95589)), (st_before, .inl (g 0, 8, .inl f_95590))] H := hP
    have hD : va_D A [(st, .inr (7, [.ref st_what, .ref st_node, .ref st_index, .ref st_before, .int v_95591])), (st_what, .inl (g 0, 8, .inl f_95587)), (st_node, .inl (g 0, 8, .inl f_95588)), (st_index, .inl (g 0, 8, .inl f_95589)), (st_before, .inl (g 0, 8, .inl f_95590))] := hD
    have hP9 := hP.sub (ws' := [(st, .inr (7, [.ref st_what, .ref st_node, .ref st_index, .ref st_before, .int v_95591])), (st_what, .inl (g 0, 8, .inl f_95587)), (st_node, .inl (g 0, 8, .inl f_95588)), (st_index, .inl (g 0, 8, .inl f_95589)), (st_before, .inl (g 0, 8, .inl f_95590))]) [0, 1, 2, 3, 4] rfl
    have hD9 := hD.sub (ws' := [(st, .inr (7, [.ref st_what, .ref st_node, .ref st_index, .ref st_before, .int v_95591])), (st_what, .inl (g 0, 8, .inl f_95587)), (st_node, .inl (g 0, 8, .inl f_95588)), (st_index, .inl (g 0, 8, .inl f_95589)), (st_before, .inl (g 0, 8, .inl f_95590))]) [0, 1, 2, 3, 4] (by decide) rfl
    exact W.vret hx hb hr (fun t ht hW => ⟨⟨(), rfl, trivial, v_95591, f_95587, f_95588, f_95589, f_95590, (tr_w h_v_95591 (by decide) (by decide)), (tr_wa h_f_95587 (by decide) (by decide)), (tr_wa h_f_95588 (by decide) (by decide)), (tr_wa h_f_95589 (by decide) (by decide)), (by rw [f_95587_e, f_95590_e]; exact tr_relupd hrel (fun h => absurd h (by decide))), (pus_a f_95587_e (by show Int.toNat _ = _; omega) (by omega) (by have z_8 := tk_8; have z_7 := tk_7; omega) (by have z_8 := tk_8; have z_7 := tk_7; omega)), (pus_a f_95588_e (by show Int.toNat _ = _; omega) (by omega) (by have z_8 := tk_8; have z_7 := tk_7; omega) (by have z_8 := tk_8; have z_7 := tk_7; omega)), (pus_a f_95589_e (by show Int.toNat _ = _; omega) (by omega) (by have z_8 := tk_8; have z_7 := tk_7; omega) (by have z_8 := tk_8; have z_7 := tk_7; omega)), (pus_a f_95590_e (by show Int.toNat _ = _; omega) (by omega) (by have z_8 := tk_8; have z_7 := tk_7; omega) (by have z_8 := tk_8; have z_7 := tk_7; omega)), by rw [ht]; exact hP9, hD9⟩, hS.F ht⟩) hS.2.2 dX7_add_64
  · skip
    have kk_8 := tk_8
    have c_95584_i := Int32.le_iff_toInt_le.mp (Int32.not_lt.mp c_95584)
    have h_95586 : 8 ≤ (stc : Int32).toInt ∧ (stc : Int32).toInt ≤ 8 := nr_le_r (⟨by decide, by decide⟩ : 8 ≤ (8 : Int32).toInt ∧ (8 : Int32).toInt ≤ 8) h_stc c_95584_i (by decide) (by decide)
    refine lv_aload_n hx hb dX7_add_9 rfl (lv_at hl 0 rfl) ?_
    have hPc := hP.sub (ws' := [(st, .inr (7, [.ref st_what, .ref st_node, .ref st_index, .ref st_before, .int stc])), (st_what, .inl (g 0, 8, .inl stw)), (st_node, .inl (g 0, 8, .inl stn)), (st_index, .inl (g 0, 8, .inl sti)), (st_before, .inl (g 0, 8, .inl stb))]) [0, 1, 2, 3, 4] rfl
    have hDc := hD.sub (ws' := [(st, .inr (7, [.ref st_what, .ref st_node, .ref st_index, .ref st_before, .int stc])), (st_what, .inl (g 0, 8, .inl stw)), (st_node, .inl (g 0, 8, .inl stn)), (st_index, .inl (g 0, 8, .inl sti)), (st_before, .inl (g 0, 8, .inl stb))]) [0, 1, 2, 3, 4] (by decide) rfl
    have hFc := va_free (wc := [(st, .inr (7, [.ref st_what, .ref st_node, .ref st_index, .ref st_before, .int stc])), (st_what, .inl (g 0, 8, .inl stw)), (st_node, .inl (g 0, 8, .inl stn)), (st_index, .inl (g 0, 8, .inl sti)), (st_before, .inl (g 0, 8, .inl stb))]) hD hS hA [0, 1, 2, 3, 4] rfl
    refine va_callv (va_runV (As := []) (rest := []) ⟨hx, hb, hml, hown, hts⟩ (c_X7_forgetOldest l D g s.heap.size st st_what st_node st_index st_before stc stw stn sti stb (tr_w h_95586 (by decide) (by decide)) (tr_wa h_stw (by decide) (by decide)) (tr_wa h_stn (by decide) (by decide)) (tr_wa h_sti (by decide) (by decide)) hrel) (cwV 0 hts (tz_gV qw_625 qw_626 qw_627 qw_628 qw_629) rfl rfl rfl (by decide +kernel) ⟨Nat.le_of_ble_eq_true rfl, Nat.le_of_ble_eq_true rfl⟩) ⟨tz_blQ, va_recv hK hPc (ci := 7) (q0 := 0) rfl rfl, tz_preQ hPc hK hDc⟩ rfl rfl hl.1 rfl (lv_room (Nat.le_of_ble_eq_true rfl)) dX7_add_10 ⟨Nat.le_of_ble_eq_true rfl, Nat.le_of_ble_eq_true rfl⟩) hS (fun q _ h => hFc q h) hFc (fun u t H1 locs ht hvm hw hB hz1 hk1 hS => ?_)
    obtain ⟨ostw_95593, ostn_95594, osti_95595, ostb_95596, hf_95597, hf_95598, hf_95599, hf_95600, hf_95601, hf_95602, hf_95603, hf_95604, hP1, hD1⟩ := hB
    rw [ht] at hP1
    obtain ⟨hP, hD⟩ := va_join (wr := []) (w1 := [(st, .inr (7, [.ref st_what, .ref st_node, .ref st_index, .ref st_before, .int 7])), (st_what, .inl (g 0, 8, .inl ostw_95593)), (st_node, .inl (g 0, 8, .inl ostn_95594)), (st_index, .inl (g 0, 8, .inl osti_95595)), (st_before, .inl (g 0, 8, .inl ostb_95596))]) hP hD [0, 1, 2, 3, 4] [] rfl rfl (by decide) (by decide) hk1 hFc hP1 hD1
    generalize H1 = H at hP hS ⊢
    have hP : va_P D vwCl [(st, .inr (7, [.ref st_what, .ref st_node, .ref st_index, .ref st_before, .int 7])), (st_what, .inl (g 0, 8, .inl ostw_95593)), (st_node, .inl (g 0, 8, .inl ostn_95594)), (st_index, .inl (g 0, 8, .inl osti_95595)), (st_before, .inl (g 0, 8, .inl ostb_95596))] H := hP
    have hD : va_D A [(st, .inr (7, [.ref st_what, .ref st_node, .ref st_index, .ref st_before, .int 7])), (st_what, .inl (g 0, 8, .inl ostw_95593)), (st_node, .inl (g 0, 8, .inl ostn_95594)), (st_index, .inl (g 0, 8, .inl osti_95595)), (st_before, .inl (g 0, 8, .inl ostb_95596))] := hD
    refine lv_aload_n hx hb dX7_add_13 rfl (lv_at hl 0 rfl) ?_
    refine va_get (D := D) (ci := 7) (v := .ref st_what) (C := RX7) (T := TX7) (N := 5) hx hb hts inlX7 hown hK hP 0 rfl rfl 0 (by decide) (hts (Cond.fieldLink RX7 9 "ChanceRings$Steps" "what" "[I") qw_620) (fun _ h9 => h9) rfl dX7_add_14 ?_
    refine lv_aload_n hx hb dX7_add_17 rfl (lv_at hl 0 rfl) ?_
    refine va_get (D := D) (ci := 7) (v := .int 7) (C := RX7) (T := TX7) (N := 5) hx hb hts inlX7 hown hK hP 0 rfl rfl 4 (by decide) (hts (Cond.fieldLink RX7 24 "ChanceRings$Steps" "count" "I") qw_619) (fun _ h9 => h9) rfl dX7_add_18 ?_
    refine lv_iload_n hx hb dX7_add_21 rfl (lv_at hl 1 rfl) ?_
    refine va_iast hx hb hK hP hD hS 1 0 rfl rfl (tz_in (by decide +kernel)) dX7_add_22 (fun H locs hP hD hS => ?_)
    obtain ⟨f_95605, f_95605_e, h_f_95605, hP, hD⟩ : ∃ FX : Nat → Int32, FX = (upd ostw_95593 (7 : Int32).toNatClampNeg 2) ∧ (∀ j : Nat, 0 ≤ (FX j).toInt ∧ (FX j).toInt ≤ 2) ∧ va_P D vwCl [(st, .inr (7, [.ref st_what, .ref st_node, .ref st_index, .ref st_before, .int 7])), (st_what, .inl (g 0, 8, .inl FX)), (st_node, .inl (g 0, 8, .inl ostn_95594)), (st_index, .inl (g 0, 8, .inl osti_95595)), (st_before, .inl (g 0, 8, .inl ostb_95596))] H ∧ va_D A [(st, .inr (7, [.ref st_what, .ref st_node, .ref st_index, .ref st_before, .int 7])), (st_what, .inl (g 0, 8, .inl FX)), (st_node, .inl (g 0, 8, .inl ostn_95594)), (st_index, .inl (g 0, 8, .inl osti_95595)), (st_before, .inl (g 0, 8, .inl ostb_95596))] := ⟨_, rfl, tr_upd hf_95597 (⟨by decide, by decide⟩ : 0 ≤ (2 : Int32).toInt ∧ (2 : Int32).toInt ≤ 2), hP, hD⟩
    have hP : va_P D vwCl [(st, .inr (7, [.ref st_what, .ref st_node, .ref st_index, .ref st_before, .int 7])), (st_what, .inl (g 0, 8, .inl f_95605)), (st_node, .inl (g 0, 8, .inl ostn_95594)), (st_index, .inl (g 0, 8, .inl osti_95595)), (st_before, .inl (g 0, 8, .inl ostb_95596))] H := hP
    have hD : va_D A [(st, .inr (7, [.ref st_what, .ref st_node, .ref st_index, .ref st_before, .int 7])), (st_what, .inl (g 0, 8, .inl f_95605)), (st_node, .inl (g 0, 8, .inl ostn_95594)), (st_index, .inl (g 0, 8, .inl osti_95595)), (st_before, .inl (g 0, 8, .inl ostb_95596))] := hD
    refine lv_aload_n hx hb dX7_add_23 rfl (lv_at hl 0 rfl) ?_
    refine va_get (D := D) (ci := 7) (v := .ref st_node) (C := RX7) (T := TX7) (N := 5) hx hb hts inlX7 hown hK hP 0 rfl rfl 1 (by decide) (hts (Cond.fieldLink RX7 15 "ChanceRings$Steps" "node" "[I") qw_622) (fun _ h9 => h9) rfl dX7_add_24 ?_
    refine lv_aload_n hx hb dX7_add_27 rfl (lv_at hl 0 rfl) ?_
    refine va_get (D := D) (ci := 7) (v := .int 7) (C := RX7) (T := TX7) (N := 5) hx hb hts inlX7 hown hK hP 0 rfl rfl 4 (by decide) (hts (Cond.fieldLink RX7 24 "ChanceRings$Steps" "count" "I") qw_619) (fun _ h9 => h9) rfl dX7_add_28 ?_
    refine lv_iload_n hx hb dX7_add_31 rfl (lv_at hl 2 rfl) ?_
    refine va_iast hx hb hK hP hD hS 2 0 rfl rfl (tz_in (by decide +kernel)) dX7_add_32 (fun H locs hP hD hS => ?_)
    obtain ⟨f_95606, f_95606_e, h_f_95606, hP, hD⟩ : ∃ FX : Nat → Int32, FX = (upd ostn_95594 (7 : Int32).toNatClampNeg p1) ∧ (∀ j : Nat, 0 ≤ (FX j).toInt ∧ (FX j).toInt ≤ 11) ∧ va_P D vwCl [(st, .inr (7, [.ref st_what, .ref st_node, .ref st_index, .ref st_before, .int 7])), (st_what, .inl (g 0, 8, .inl f_95605)), (st_node, .inl (g 0, 8, .inl FX)), (st_index, .inl (g 0, 8, .inl osti_95595)), (st_before, .inl (g 0, 8, .inl ostb_95596))] H ∧ va_D A [(st, .inr (7, [.ref st_what, .ref st_node, .ref st_index, .ref st_before, .int 7])), (st_what, .inl (g 0, 8, .inl f_95605)), (st_node, .inl (g 0, 8, .inl FX)), (st_index, .inl (g 0, 8, .inl osti_95595)), (st_before, .inl (g 0, 8, .inl ostb_95596))] := ⟨_, rfl, tr_upd hf_95598 (tr_w h_p1 (by decide) (by decide)), hP, hD⟩
    have hP : va_P D vwCl [(st, .inr (7, [.ref st_what, .ref st_node, .ref st_index, .ref st_before, .int 7])), (st_what, .inl (g 0, 8, .inl f_95605)), (st_node, .inl (g 0, 8, .inl f_95606)), (st_index, .inl (g 0, 8, .inl osti_95595)), (st_before, .inl (g 0, 8, .inl ostb_95596))] H := hP
    have hD : va_D A [(st, .inr (7, [.ref st_what, .ref st_node, .ref st_index, .ref st_before, .int 7])), (st_what, .inl (g 0, 8, .inl f_95605)), (st_node, .inl (g 0, 8, .inl f_95606)), (st_index, .inl (g 0, 8, .inl osti_95595)), (st_before, .inl (g 0, 8, .inl ostb_95596))] := hD
    refine lv_aload_n hx hb dX7_add_33 rfl (lv_at hl 0 rfl) ?_
    refine va_get (D := D) (ci := 7) (v := .ref st_index) (C := RX7) (T := TX7) (N := 5) hx hb hts inlX7 hown hK hP 0 rfl rfl 2 (by decide) (hts (Cond.fieldLink RX7 18 "ChanceRings$Steps" "index" "[I") qw_623) (fun _ h9 => h9) rfl dX7_add_34 ?_
    refine lv_aload_n hx hb dX7_add_37 rfl (lv_at hl 0 rfl) ?_
    refine va_get (D := D) (ci := 7) (v := .int 7) (C := RX7) (T := TX7) (N := 5) hx hb hts inlX7 hown hK hP 0 rfl rfl 4 (by decide) (hts (Cond.fieldLink RX7 24 "ChanceRings$Steps" "count" "I") qw_619) (fun _ h9 => h9) rfl dX7_add_38 ?_
    refine lv_iload_n hx hb dX7_add_41 rfl (lv_at hl 3 rfl) ?_
    refine va_iast hx hb hK hP hD hS 3 0 rfl rfl (tz_in (by decide +kernel)) dX7_add_42 (fun H locs hP hD hS => ?_)
    obtain ⟨f_95607, f_95607_e, h_f_95607, hP, hD⟩ : ∃ FX : Nat → Int32, FX = (upd osti_95595 (7 : Int32).toNatClampNeg p2) ∧ (∀ j : Nat, 0 ≤ (FX j).toInt ∧ (FX j).toInt ≤ 2) ∧ va_P D vwCl [(st, .inr (7, [.ref st_what, .ref st_node, .ref st_index, .ref st_before, .int 7])), (st_what, .inl (g 0, 8, .inl f_95605)), (st_node, .inl (g 0, 8, .inl f_95606)), (st_index, .inl (g 0, 8, .inl FX)), (st_before, .inl (g 0, 8, .inl ostb_95596))] H ∧ va_D A [(st, .inr (7, [.ref st_what, .ref st_node, .ref st_index, .ref st_before, .int 7])), (st_what, .inl (g 0, 8, .inl f_95605)), (st_node, .inl (g 0, 8, .inl f_95606)), (st_index, .inl (g 0, 8, .inl FX)), (st_before, .inl (g 0, 8, .inl ostb_95596))] := ⟨_, rfl, tr_upd hf_95599 (tr_w h_p2 (by decide) (by decide)), hP, hD⟩
    have hP : va_P D vwCl [(st, .inr (7, [.ref st_what, .ref st_node, .ref st_index, .ref st_before, .int 7])), (st_what, .inl (g 0, 8, .inl f_95605)), (st_node, .inl (g 0, 8, .inl f_95606)), (st_index, .inl (g 0, 8, .inl f_95607)), (st_before, .inl (g 0, 8, .inl ostb_95596))] H := hP
    have hD : va_D A [(st, .inr (7, [.ref st_what, .ref st_node, .ref st_index, .ref st_before, .int 7])), (st_what, .inl (g 0, 8, .inl f_95605)), (st_node, .inl (g 0, 8, .inl f_95606)), (st_index, .inl (g 0, 8, .inl f_95607)), (st_before, .inl (g 0, 8, .inl ostb_95596))] := hD
    refine lv_aload_n hx hb dX7_add_43 rfl (lv_at hl 0 rfl) ?_
    refine va_get (D := D) (ci := 7) (v := .ref st_before) (C := RX7) (T := TX7) (N := 5) hx hb hts inlX7 hown hK hP 0 rfl rfl 3 (by decide) (hts (Cond.fieldLink RX7 21 "ChanceRings$Steps" "before" "[I") qw_624) (fun _ h9 => h9) rfl dX7_add_44 ?_
    refine lv_aload_n hx hb dX7_add_47 rfl (lv_at hl 0 rfl) ?_
    refine va_get (D := D) (ci := 7) (v := .int 7) (C := RX7) (T := TX7) (N := 5) hx hb hts inlX7 hown hK hP 0 rfl rfl 4 (by decide) (hts (Cond.fieldLink RX7 24 "ChanceRings$Steps" "count" "I") qw_619) (fun _ h9 => h9) rfl dX7_add_48 ?_
    refine lv_iload hx hb dX7_add_51 (lv_at hl 4 rfl) ?_
    refine va_iast hx hb hK hP hD hS 4 0 rfl rfl (tz_in (by decide +kernel)) dX7_add_53 (fun H locs hP hD hS => ?_)
    obtain ⟨f_95608, f_95608_e, hP, hD⟩ : ∃ FX : Nat → Int32, FX = (upd ostb_95596 (7 : Int32).toNatClampNeg p3) ∧ va_P D vwCl [(st, .inr (7, [.ref st_what, .ref st_node, .ref st_index, .ref st_before, .int 7])), (st_what, .inl (g 0, 8, .inl f_95605)), (st_node, .inl (g 0, 8, .inl f_95606)), (st_index, .inl (g 0, 8, .inl f_95607)), (st_before, .inl (g 0, 8, .inl FX))] H ∧ va_D A [(st, .inr (7, [.ref st_what, .ref st_node, .ref st_index, .ref st_before, .int 7])), (st_what, .inl (g 0, 8, .inl f_95605)), (st_node, .inl (g 0, 8, .inl f_95606)), (st_index, .inl (g 0, 8, .inl f_95607)), (st_before, .inl (g 0, 8, .inl FX))] := ⟨_, rfl, hP, hD⟩
    have hP : va_P D vwCl [(st, .inr (7, [.ref st_what, .ref st_node, .ref st_index, .ref st_before, .int 7])), (st_what, .inl (g 0, 8, .inl f_95605)), (st_node, .inl (g 0, 8, .inl f_95606)), (st_index, .inl (g 0, 8, .inl f_95607)), (st_before, .inl (g 0, 8, .inl f_95608))] H := hP
    have hD : va_D A [(st, .inr (7, [.ref st_what, .ref st_node, .ref st_index, .ref st_before, .int 7])), (st_what, .inl (g 0, 8, .inl f_95605)), (st_node, .inl (g 0, 8, .inl f_95606)), (st_index, .inl (g 0, 8, .inl f_95607)), (st_before, .inl (g 0, 8, .inl f_95608))] := hD
    refine lv_aload_n hx hb dX7_add_54 rfl (lv_at hl 0 rfl) ?_
    refine lv_dup hx hb dX7_add_55 rfl ?_
    refine va_get (D := D) (ci := 7) (v := .int 7) (C := RX7) (T := TX7) (N := 5) hx hb hts inlX7 hown hK hP 0 rfl rfl 4 (by decide) (hts (Cond.fieldLink RX7 24 "ChanceRings$Steps" "count" "I") qw_619) (fun _ h9 => h9) rfl dX7_add_56 ?_
    refine lv_iconst (v := 1) hx hb dX7_add_59 (by decide) ?_
    refine lv_iadd hx hb dX7_add_60 ?_
    refine tz_i (y := 8) (by decide +kernel) ?_
    refine va_put (D := D) (ci := 7) (v := .int 8) (ty := .int) (C := RX7) (T := TX7) (N := 5) hx hb hts inlX7 tyX7 tyX7_ok nmX7 hown hK hP hD hS 0 rfl rfl 4 (by decide) (hts (Cond.fieldLink RX7 24 "ChanceRings$Steps" "count" "I") qw_619) (fun _ h9 => h9) rfl (by decide +kernel) rfl rfl (Nat.le_of_ble_eq_true rfl) dX7_add_61 (fun H locs hP hD hS => ?_)
    have hP : va_P D vwCl [(st, .inr (7, [.ref st_what, .ref st_node, .ref st_index, .ref st_before, .int 8])), (st_what, .inl (g 0, 8, .inl f_95605)), (st_node, .inl (g 0, 8, .inl f_95606)), (st_index, .inl (g 0, 8, .inl f_95607)), (st_before, .inl (g 0, 8, .inl f_95608))] H := hP
    have hD : va_D A [(st, .inr (7, [.ref st_what, .ref st_node, .ref st_index, .ref st_before, .int 8])), (st_what, .inl (g 0, 8, .inl f_95605)), (st_node, .inl (g 0, 8, .inl f_95606)), (st_index, .inl (g 0, 8, .inl f_95607)), (st_before, .inl (g 0, 8, .inl f_95608))] := hD
    have hP9 := hP.sub (ws' := [(st, .inr (7, [.ref st_what, .ref st_node, .ref st_index, .ref st_before, .int 8])), (st_what, .inl (g 0, 8, .inl f_95605)), (st_node, .inl (g 0, 8, .inl f_95606)), (st_index, .inl (g 0, 8, .inl f_95607)), (st_before, .inl (g 0, 8, .inl f_95608))]) [0, 1, 2, 3, 4] rfl
    have hD9 := hD.sub (ws' := [(st, .inr (7, [.ref st_what, .ref st_node, .ref st_index, .ref st_before, .int 8])), (st_what, .inl (g 0, 8, .inl f_95605)), (st_node, .inl (g 0, 8, .inl f_95606)), (st_index, .inl (g 0, 8, .inl f_95607)), (st_before, .inl (g 0, 8, .inl f_95608))]) [0, 1, 2, 3, 4] (by decide) rfl
    exact W.vret hx hb hr (fun t ht hW => ⟨⟨(), rfl, trivial, 8, f_95605, f_95606, f_95607, f_95608, (⟨by decide, by decide⟩ : 0 ≤ (8 : Int32).toInt ∧ (8 : Int32).toInt ≤ 8), (tr_wa h_f_95605 (by decide) (by decide)), (tr_wa h_f_95606 (by decide) (by decide)), (tr_wa h_f_95607 (by decide) (by decide)), (by rw [f_95605_e, f_95608_e]; exact tr_relupd hf_95600 (fun h => absurd h (by decide))), (pus_b hf_95601 f_95605_e (by decide) (by have z_8 := tk_8; have z_7 := tk_7; (first | (clear h_p1 h_p2 h_stc c_95584_i h_95586; omega) | omega)) (by have z_8 := tk_8; have z_7 := tk_7; (first | (clear h_p1 h_p2 h_stc c_95584_i h_95586; omega) | omega))), (pus_b hf_95602 f_95606_e (by decide) (by have z_8 := tk_8; have z_7 := tk_7; (first | (clear h_p1 h_p2 h_stc c_95584_i h_95586; omega) | omega)) (by have z_8 := tk_8; have z_7 := tk_7; (first | (clear h_p1 h_p2 h_stc c_95584_i h_95586; omega) | omega))), (pus_b hf_95603 f_95607_e (by decide) (by have z_8 := tk_8; have z_7 := tk_7; (first | (clear h_p1 h_p2 h_stc c_95584_i h_95586; omega) | omega)) (by have z_8 := tk_8; have z_7 := tk_7; (first | (clear h_p1 h_p2 h_stc c_95584_i h_95586; omega) | omega))), (pus_b hf_95604 f_95608_e (by decide) (by have z_8 := tk_8; have z_7 := tk_7; (first | (clear h_p1 h_p2 h_stc c_95584_i h_95586; omega) | omega)) (by have z_8 := tk_8; have z_7 := tk_7; (first | (clear h_p1 h_p2 h_stc c_95584_i h_95586; omega) | omega))), by rw [ht]; exact hP9, hD9⟩, hS.F ht⟩) hS.2.2 dX7_add_64
set_option maxHeartbeats 4000000 in
set_option maxRecDepth 100000 in
theorem c_X7_takeBack (l : Launch) (D : va_G) (g : Nat → ClassId) (sz : Nat) (st : Nat) (n : Nat) (st_what : Nat) (st_node : Nat) (st_index : Nat) (st_before : Nat) (stc : Int32) (stw : Nat → Int32) (stn : Nat → Int32) (sti : Nat → Int32) (stb : Nat → Int32) (n_nodes : Int32) (n_kind : Nat) (n_pay : Nat) (n_name : Nat) (n_ways : Nat) (n_held : Nat) (n_targets : Nat) (n_weights : Nat) (n_fpay : Nat → Int32) (n_fheld : Nat → Int32) (n_fweights : Nat → Int32) (h_stc : 0 ≤ (stc : Int32).toInt ∧ (stc : Int32).toInt ≤ 8) (h_stw : ∀ j : Nat, 0 ≤ (stw j).toInt ∧ (stw j).toInt ≤ 2) (h_stn : ∀ j : Nat, 0 ≤ (stn j).toInt ∧ (stn j).toInt ≤ 11) (h_sti : ∀ j : Nat, 0 ≤ (sti j).toInt ∧ (sti j).toInt ≤ 2) (h_n_nodes : 0 ≤ (n_nodes : Int32).toInt ∧ (n_nodes : Int32).toInt ≤ 12) (h_n_fheld : ∀ j : Nat, (-1) ≤ (n_fheld j).toInt ∧ (n_fheld j).toInt ≤ 2) (hrel : ∀ j : Nat, stw j = 0 → -1 ≤ (stb j).toInt ∧ (stb j).toInt ≤ 2) : Met l yX7_takeBack (.code yX7_takeBack cX7_takeBack 3 none :: wsL_law) ({ frames := 1, cells := 0, slots := 0, locals := 23 }) (va_Pc [.ref st, .ref n] (fun U => U.heap.size = sz ∧ va_P D vwCl [(st, .inr (7, [.ref st_what, .ref st_node, .ref st_index, .ref st_before, .int stc])), (st_what, .inl (g 0, 8, .inl stw)), (st_node, .inl (g 0, 8, .inl stn)), (st_index, .inl (g 0, 8, .inl sti)), (st_before, .inl (g 0, 8, .inl stb)), (n, .inr (2, [.int n_nodes, .ref n_kind, .ref n_pay, .ref n_name, .ref n_ways, .ref n_held, .ref n_targets, .ref n_weights])), (n_pay, .inl (g 0, 12, .inl n_fpay)), (n_held, .inl (g 0, 12, .inl n_fheld)), (n_weights, .inl (g 0, 36, .inl n_fweights))] U.heap ∧ va_K D vwCl (TY g) U ∧ va_D (fun _ => True) [(st, .inr (7, [.ref st_what, .ref st_node, .ref st_index, .ref st_before, .int stc])), (st_what, .inl (g 0, 8, .inl stw)), (st_node, .inl (g 0, 8, .inl stn)), (st_index, .inl (g 0, 8, .inl sti)), (st_before, .inl (g 0, 8, .inl stb)), (n, .inr (2, [.int n_nodes, .ref n_kind, .ref n_pay, .ref n_name, .ref n_ways, .ref n_held, .ref n_targets, .ref n_weights])), (n_pay, .inl (g 0, 12, .inl n_fpay)), (n_held, .inl (g 0, 12, .inl n_fheld)), (n_weights, .inl (g 0, 36, .inl n_fweights))])) (va_Qv (fun (_ : Unit) => True) (fun _ t => ∃ ostc : Int32, ∃ n_gpay : Nat → Int32, ∃ n_gheld : Nat → Int32, ∃ n_gweights : Nat → Int32, (0 ≤ (ostc : Int32).toInt ∧ (ostc : Int32).toInt ≤ 8) ∧ (∀ j : Nat, (-1) ≤ (n_gheld j).toInt ∧ (n_gheld j).toInt ≤ 2) ∧ (0 < (stc : Int32).toInt → (ostc : Int32).toInt = (stc : Int32).toInt - 1 ∧ ∀ (k9 n9 w9 t9 : Nat → Int32), SetC (absC n_nodes k9 n_fpay n9 w9 n_fheld t9 n_fweights) (absC n_nodes k9 n_gpay n9 w9 n_gheld t9 n_gweights) (cellOf (stw ((stc : Int32).toInt.toNat - 1)).toInt (stn ((stc : Int32).toInt.toNat - 1)).toInt (sti ((stc : Int32).toInt.toNat - 1)).toInt) (stb ((stc : Int32).toInt.toNat - 1)).toInt) ∧ va_P D vwCl [(st, .inr (7, [.ref st_what, .ref st_node, .ref st_index, .ref st_before, .int ostc])), (st_what, .inl (g 0, 8, .inl stw)), (st_node, .inl (g 0, 8, .inl stn)), (st_index, .inl (g 0, 8, .inl sti)), (st_before, .inl (g 0, 8, .inl stb)), (n, .inr (2, [.int n_nodes, .ref n_kind, .ref n_pay, .ref n_name, .ref n_ways, .ref n_held, .ref n_targets, .ref n_weights])), (n_pay, .inl (g 0, 12, .inl n_gpay)), (n_held, .inl (g 0, 12, .inl n_gheld)), (n_weights, .inl (g 0, 36, .inl n_gweights))] t.heap ∧ va_D (va_A [(st, .inr (7, [.ref st_what, .ref st_node, .ref st_index, .ref st_before, .int stc])), (st_what, .inl (g 0, 8, .inl stw)), (st_node, .inl (g 0, 8, .inl stn)), (st_index, .inl (g 0, 8, .inl sti)), (st_before, .inl (g 0, 8, .inl stb)), (n, .inr (2, [.int n_nodes, .ref n_kind, .ref n_pay, .ref n_name, .ref n_ways, .ref n_held, .ref n_targets, .ref n_weights])), (n_pay, .inl (g 0, 12, .inl n_fpay)), (n_held, .inl (g 0, 12, .inl n_fheld)), (n_weights, .inl (g 0, 36, .inl n_fweights))] sz) [(st, .inr (7, [.ref st_what, .ref st_node, .ref st_index, .ref st_before, .int ostc])), (st_what, .inl (g 0, 8, .inl stw)), (st_node, .inl (g 0, 8, .inl stn)), (st_index, .inl (g 0, 8, .inl sti)), (st_before, .inl (g 0, 8, .inl stb)), (n, .inr (2, [.int n_nodes, .ref n_kind, .ref n_pay, .ref n_name, .ref n_ways, .ref n_held, .ref n_targets, .ref n_weights])), (n_pay, .inl (g 0, 12, .inl n_gpay)), (n_held, .inl (g 0, 12, .inl n_gheld)), (n_weights, .inl (g 0, 36, .inl n_gweights))]) (va_A [(st, .inr (7, [.ref st_what, .ref st_node, .ref st_index, .ref st_before, .int stc])), (st_what, .inl (g 0, 8, .inl stw)), (st_node, .inl (g 0, 8, .inl stn)), (st_index, .inl (g 0, 8, .inl sti)), (st_before, .inl (g 0, 8, .inl stb)), (n, .inr (2, [.int n_nodes, .ref n_kind, .ref n_pay, .ref n_name, .ref n_ways, .ref n_held, .ref n_targets, .ref n_weights])), (n_pay, .inl (g 0, 12, .inl n_fpay)), (n_held, .inl (g 0, 12, .inl n_fheld)), (n_weights, .inl (g 0, 36, .inl n_fweights))] sz)) 0 0 (va_A [(st, .inr (7, [.ref st_what, .ref st_node, .ref st_index, .ref st_before, .int stc])), (st_what, .inl (g 0, 8, .inl stw)), (st_node, .inl (g 0, 8, .inl stn)), (st_index, .inl (g 0, 8, .inl sti)), (st_before, .inl (g 0, 8, .inl stb)), (n, .inr (2, [.int n_nodes, .ref n_kind, .ref n_pay, .ref n_name, .ref n_ways, .ref n_held, .ref n_targets, .ref n_weights])), (n_pay, .inl (g 0, 12, .inl n_fpay)), (n_held, .inl (g 0, 12, .inl n_fheld)), (n_weights, .inl (g 0, 36, .inl n_fweights))] sz) := by
  refine Met.ofW (cc := cX7_takeBack) (maxL := 3) (ret := none) (by decide) rfl ?_
  intro p e s m args below meth c s₁ B hml hv
  obtain ⟨ha, hsz, hP, hK, hD0⟩ := hv
  have hx := B.exec
  have hb := B.bytes
  have hr := B.returns
  have hts0 := atoms_spec (ws := (.code yX7_takeBack cX7_takeBack 3 none :: wsL_law)) B.pre
  have hts : ∀ w ∈ wsL_law, w.before args s = true := fun w h => hts0 w (List.mem_cons_of_mem _ h)
  have hown : s.vm.findClass RX7 = some m.cls := findClass_of_methodNamed B.named
  have hlocks := B.notSynchronized
  subst hsz
  have hD := hD0.self (sz := s.heap.size)
  generalize hAe : va_A [(st, .inr (7, [.ref st_what, .ref st_node, .ref st_index, .ref st_before, .int stc])), (st_what, .inl (g 0, 8, .inl stw)), (st_node, .inl (g 0, 8, .inl stn)), (st_index, .inl (g 0, 8, .inl sti)), (st_before, .inl (g 0, 8, .inl stb)), (n, .inr (2, [.int n_nodes, .ref n_kind, .ref n_pay, .ref n_name, .ref n_ways, .ref n_held, .ref n_targets, .ref n_weights])), (n_pay, .inl (g 0, 12, .inl n_fpay)), (n_held, .inl (g 0, 12, .inl n_fheld)), (n_weights, .inl (g 0, 36, .inl n_fweights))] s.heap.size = A at hD ⊢
  have hA : ∀ q : Nat, s.heap.size ≤ q → A q := fun q h => by rw [← hAe]; exact Or.inr h
  have hS : va_S A s.heap s.heap [] := va_S.rf
  have hP : va_P D vwCl [(st, .inr (7, [.ref st_what, .ref st_node, .ref st_index, .ref st_before, .int stc])), (st_what, .inl (g 0, 8, .inl stw)), (st_node, .inl (g 0, 8, .inl stn)), (st_index, .inl (g 0, 8, .inl sti)), (st_before, .inl (g 0, 8, .inl stb)), (n, .inr (2, [.int n_nodes, .ref n_kind, .ref n_pay, .ref n_name, .ref n_ways, .ref n_held, .ref n_targets, .ref n_weights])), (n_pay, .inl (g 0, 12, .inl n_fpay)), (n_held, .inl (g 0, 12, .inl n_fheld)), (n_weights, .inl (g 0, 36, .inl n_fweights))] s.heap := hP
  refine W.eq (g2 := entryFrame m ([.ref st, .ref n] : List Value).toArray 3) (by rw [ha]) ?_
  have hl := lv_entry ([.ref st, .ref n]) (n := 3) (Nat.le_of_ble_eq_true rfl)
  rw [lg_entry_eq]
  generalize (lg_sl ([.ref st, .ref n]) ++ List.replicate (3 - (lg_sl ([.ref st, .ref n])).length) Slot.unset).toArray = ls at hl ⊢
  have hl : lv_has ls 3 [(0, .ref st), (1, .ref n)] := hl
  refine lv_aload_n hx hb dX7_takeBack_0 rfl (lv_at hl 0 rfl) ?_
  refine va_get (D := D) (ci := 7) (v := .int stc) (C := RX7) (T := TX7) (N := 5) hx hb hts inlX7 hown hK hP 0 rfl rfl 4 (by decide) (hts (Cond.fieldLink RX7 24 "ChanceRings$Steps" "count" "I") qw_619) (fun _ h9 => h9) rfl dX7_takeBack_1 ?_
  refine lv_if_gt (tgt := 8) hx hb dX7_takeBack_4 (by decide) (fun c_95609 => ?_) (fun c_95609 => ?_)
  · skip
    have kk_0 := tk_0
    have c_95609_i := Int32.lt_iff_toInt_lt.mp c_95609
    have h_95610 : 1 ≤ (stc : Int32).toInt ∧ (stc : Int32).toInt ≤ 8 := nr_lt_r (⟨by decide, by decide⟩ : 0 ≤ (0 : Int32).toInt ∧ (0 : Int32).toInt ≤ 0) h_stc c_95609_i (by decide) (by decide)
    refine lv_aload_n hx hb dX7_takeBack_8 rfl (lv_at hl 0 rfl) ?_
    refine lv_dup hx hb dX7_takeBack_9 rfl ?_
    refine va_get (D := D) (ci := 7) (v := .int stc) (C := RX7) (T := TX7) (N := 5) hx hb hts inlX7 hown hK hP 0 rfl rfl 4 (by decide) (hts (Cond.fieldLink RX7 24 "ChanceRings$Steps" "count" "I") qw_619) (fun _ h9 => h9) rfl dX7_takeBack_10 ?_
    refine lv_iconst (v := 1) hx hb dX7_takeBack_13 (by decide) ?_
    refine lv_isub hx hb dX7_takeBack_14 ?_
    refine lv_topi (fun v_95612 v_95612_e => ?_)
    have h_v_95612 : 0 ≤ (v_95612 : Int32).toInt ∧ (v_95612 : Int32).toInt ≤ 7 := by rw [v_95612_e]; exact tr_sub h_95610 (⟨by decide, by decide⟩ : 1 ≤ (1 : Int32).toInt ∧ (1 : Int32).toInt ≤ 1) (by decide) (by decide) (by decide) (by decide)
    have q_v_95612 : v_95612.toInt = stc.toInt - 1 := by rw [v_95612_e]; exact tr_subE h_95610 (⟨by decide, by decide⟩ : 1 ≤ (1 : Int32).toInt ∧ (1 : Int32).toInt ≤ 1) (by decide) (by decide)
    refine va_put (D := D) (ci := 7) (v := .int v_95612) (ty := .int) (C := RX7) (T := TX7) (N := 5) hx hb hts inlX7 tyX7 tyX7_ok nmX7 hown hK hP hD hS 0 rfl rfl 4 (by decide) (hts (Cond.fieldLink RX7 24 "ChanceRings$Steps" "count" "I") qw_619) (fun _ h9 => h9) rfl (by decide +kernel) rfl rfl (Nat.le_of_ble_eq_true rfl) dX7_takeBack_15 (fun H locs hP hD hS => ?_)
    have hP : va_P D vwCl [(st, .inr (7, [.ref st_what, .ref st_node, .ref st_index, .ref st_before, .int v_95612])), (st_what, .inl (g 0, 8, .inl stw)), (st_node, .inl (g 0, 8, .inl stn)), (st_index, .inl (g 0, 8, .inl sti)), (st_before, .inl (g 0, 8, .inl stb)), (n, .inr (2, [.int n_nodes, .ref n_kind, .ref n_pay, .ref n_name, .ref n_ways, .ref n_held, .ref n_targets, .ref n_weights])), (n_pay, .inl (g 0, 12, .inl n_fpay)), (n_held, .inl (g 0, 12, .inl n_fheld)), (n_weights, .inl (g 0, 36, .inl n_fweights))] H := hP
    have hD : va_D A [(st, .inr (7, [.ref st_what, .ref st_node, .ref st_index, .ref st_before, .int v_95612])), (st_what, .inl (g 0, 8, .inl stw)), (st_node, .inl (g 0, 8, .inl stn)), (st_index, .inl (g 0, 8, .inl sti)), (st_before, .inl (g 0, 8, .inl stb)), (n, .inr (2, [.int n_nodes, .ref n_kind, .ref n_pay, .ref n_name, .ref n_ways, .ref n_held, .ref n_targets, .ref n_weights])), (n_pay, .inl (g 0, 12, .inl n_fpay)), (n_held, .inl (g 0, 12, .inl n_fheld)), (n_weights, .inl (g 0, 36, .inl n_fweights))] := hD
    refine lv_aload_n hx hb dX7_takeBack_18 rfl (lv_at hl 0 rfl) ?_
    refine va_get (D := D) (ci := 7) (v := .ref st_node) (C := RX7) (T := TX7) (N := 5) hx hb hts inlX7 hown hK hP 0 rfl rfl 1 (by decide) (hts (Cond.fieldLink RX7 15 "ChanceRings$Steps" "node" "[I") qw_622) (fun _ h9 => h9) rfl dX7_takeBack_19 ?_
    refine lv_aload_n hx hb dX7_takeBack_22 rfl (lv_at hl 0 rfl) ?_
    refine va_get (D := D) (ci := 7) (v := .int v_95612) (C := RX7) (T := TX7) (N := 5) hx hb hts inlX7 hown hK hP 0 rfl rfl 4 (by decide) (hts (Cond.fieldLink RX7 24 "ChanceRings$Steps" "count" "I") qw_619) (fun _ h9 => h9) rfl dX7_takeBack_23 ?_
    refine va_iald hx hb hK hP 2 0 rfl rfl (tr_in h_v_95612 (by decide) (by decide)) dX7_takeBack_26 ?_
    refine lv_topi (fun v_95613 v_95613_e => ?_)
    have h_v_95613 : 0 ≤ (v_95613 : Int32).toInt ∧ (v_95613 : Int32).toInt ≤ 11 := by rw [v_95613_e]; exact h_stn _
    have g_v_95613 : v_95613 = stn (v_95612.toInt.toNat) := v_95613_e.trans (congrArg stn rfl)
    have gi_v_95613 := congrArg Int32.toInt g_v_95613
    refine lv_istore_n (lv' := [(2, .int v_95613), (0, .ref st), (1, .ref n)]) hx hb dX7_takeBack_27 rfl hl (by decide) rfl (fun ls hl => ?_)
    refine lv_aload_n hx hb dX7_takeBack_28 rfl (lv_at hl 1 rfl) ?_
    refine va_get (D := D) (ci := 7) (v := .ref st_what) (C := RX7) (T := TX7) (N := 5) hx hb hts inlX7 hown hK hP 0 rfl rfl 0 (by decide) (hts (Cond.fieldLink RX7 9 "ChanceRings$Steps" "what" "[I") qw_620) (fun _ h9 => h9) rfl dX7_takeBack_29 ?_
    refine lv_aload_n hx hb dX7_takeBack_32 rfl (lv_at hl 1 rfl) ?_
    refine va_get (D := D) (ci := 7) (v := .int v_95612) (C := RX7) (T := TX7) (N := 5) hx hb hts inlX7 hown hK hP 0 rfl rfl 4 (by decide) (hts (Cond.fieldLink RX7 24 "ChanceRings$Steps" "count" "I") qw_619) (fun _ h9 => h9) rfl dX7_takeBack_33 ?_
    refine va_iald hx hb hK hP 1 0 rfl rfl (tr_in h_v_95612 (by decide) (by decide)) dX7_takeBack_36 ?_
    refine lv_topi (fun v_95614 v_95614_e => ?_)
    have h_v_95614 : 0 ≤ (v_95614 : Int32).toInt ∧ (v_95614 : Int32).toInt ≤ 2 := by rw [v_95614_e]; exact h_stw _
    have g_v_95614 : v_95614 = stw (v_95612.toInt.toNat) := v_95614_e.trans (congrArg stw rfl)
    have gi_v_95614 := congrArg Int32.toInt g_v_95614
    by_cases e_95615 : v_95614 = 0
    · skip
      have h_95616 : 0 ≤ (v_95614 : Int32).toInt ∧ (v_95614 : Int32).toInt ≤ 0 := by rw [e_95615]; exact ⟨by decide, by decide⟩
      refine lv_lookup (off := 27) (tgt := 64) hx hb dX7_takeBack_37 (by decide) (by rw [e_95615]; decide) (by decide) ?_
      refine lv_aload_n hx hb dX7_takeBack_64 rfl (lv_at hl 2 rfl) ?_
      refine va_get (D := D) (ci := 2) (v := .ref n_held) (C := RX2) (T := TX2) (N := 8) hx hb hts inlX2 hown hK hP 5 rfl rfl 5 (by decide) (hts (Cond.fieldLink RX7 37 "ChanceRings$Net" "held" "[I") qw_630) (fun _ h9 => h9) rfl dX7_takeBack_65 ?_
      refine lv_iload_n hx hb dX7_takeBack_68 rfl (lv_at hl 0 rfl) ?_
      refine lv_aload_n hx hb dX7_takeBack_69 rfl (lv_at hl 1 rfl) ?_
      refine va_get (D := D) (ci := 7) (v := .ref st_before) (C := RX7) (T := TX7) (N := 5) hx hb hts inlX7 hown hK hP 0 rfl rfl 3 (by decide) (hts (Cond.fieldLink RX7 21 "ChanceRings$Steps" "before" "[I") qw_624) (fun _ h9 => h9) rfl dX7_takeBack_70 ?_
      refine lv_aload_n hx hb dX7_takeBack_73 rfl (lv_at hl 1 rfl) ?_
      refine va_get (D := D) (ci := 7) (v := .int v_95612) (C := RX7) (T := TX7) (N := 5) hx hb hts inlX7 hown hK hP 0 rfl rfl 4 (by decide) (hts (Cond.fieldLink RX7 24 "ChanceRings$Steps" "count" "I") qw_619) (fun _ h9 => h9) rfl dX7_takeBack_74 ?_
      refine va_iald hx hb hK hP 4 0 rfl rfl (tr_in h_v_95612 (by decide) (by decide)) dX7_takeBack_77 ?_
      refine lv_topi (fun v_95617 v_95617_e => ?_)
      have h_v_95617 : (-1) ≤ (v_95617 : Int32).toInt ∧ (v_95617 : Int32).toInt ≤ 2 := by rw [v_95617_e]; exact hrel _ (v_95614_e.symm.trans e_95615)
      have g_v_95617 : v_95617 = stb (v_95612.toInt.toNat) := v_95617_e.trans (congrArg stb rfl)
      have gi_v_95617 := congrArg Int32.toInt g_v_95617
      refine va_iast hx hb hK hP hD hS 7 0 rfl rfl (tr_in h_v_95613 (by decide) (by decide)) dX7_takeBack_78 (fun H locs hP hD hS => ?_)
      obtain ⟨f_95618, f_95618_e, h_f_95618, hP, hD⟩ : ∃ FX : Nat → Int32, FX = (upd n_fheld (v_95613 : Int32).toNatClampNeg v_95617) ∧ (∀ j : Nat, (-1) ≤ (FX j).toInt ∧ (FX j).toInt ≤ 2) ∧ va_P D vwCl [(st, .inr (7, [.ref st_what, .ref st_node, .ref st_index, .ref st_before, .int v_95612])), (st_what, .inl (g 0, 8, .inl stw)), (st_node, .inl (g 0, 8, .inl stn)), (st_index, .inl (g 0, 8, .inl sti)), (st_before, .inl (g 0, 8, .inl stb)), (n, .inr (2, [.int n_nodes, .ref n_kind, .ref n_pay, .ref n_name, .ref n_ways, .ref n_held, .ref n_targets, .ref n_weights])), (n_pay, .inl (g 0, 12, .inl n_fpay)), (n_held, .inl (g 0, 12, .inl FX)), (n_weights, .inl (g 0, 36, .inl n_fweights))] H ∧ va_D A [(st, .inr (7, [.ref st_what, .ref st_node, .ref st_index, .ref st_before, .int v_95612])), (st_what, .inl (g 0, 8, .inl stw)), (st_node, .inl (g 0, 8, .inl stn)), (st_index, .inl (g 0, 8, .inl sti)), (st_before, .inl (g 0, 8, .inl stb)), (n, .inr (2, [.int n_nodes, .ref n_kind, .ref n_pay, .ref n_name, .ref n_ways, .ref n_held, .ref n_targets, .ref n_weights])), (n_pay, .inl (g 0, 12, .inl n_fpay)), (n_held, .inl (g 0, 12, .inl FX)), (n_weights, .inl (g 0, 36, .inl n_fweights))] := ⟨_, rfl, tr_upd h_n_fheld (tr_w h_v_95617 (by decide) (by decide)), hP, hD⟩
      have hP : va_P D vwCl [(st, .inr (7, [.ref st_what, .ref st_node, .ref st_index, .ref st_before, .int v_95612])), (st_what, .inl (g 0, 8, .inl stw)), (st_node, .inl (g 0, 8, .inl stn)), (st_index, .inl (g 0, 8, .inl sti)), (st_before, .inl (g 0, 8, .inl stb)), (n, .inr (2, [.int n_nodes, .ref n_kind, .ref n_pay, .ref n_name, .ref n_ways, .ref n_held, .ref n_targets, .ref n_weights])), (n_pay, .inl (g 0, 12, .inl n_fpay)), (n_held, .inl (g 0, 12, .inl f_95618)), (n_weights, .inl (g 0, 36, .inl n_fweights))] H := hP
      have hD : va_D A [(st, .inr (7, [.ref st_what, .ref st_node, .ref st_index, .ref st_before, .int v_95612])), (st_what, .inl (g 0, 8, .inl stw)), (st_node, .inl (g 0, 8, .inl stn)), (st_index, .inl (g 0, 8, .inl sti)), (st_before, .inl (g 0, 8, .inl stb)), (n, .inr (2, [.int n_nodes, .ref n_kind, .ref n_pay, .ref n_name, .ref n_ways, .ref n_held, .ref n_targets, .ref n_weights])), (n_pay, .inl (g 0, 12, .inl n_fpay)), (n_held, .inl (g 0, 12, .inl f_95618)), (n_weights, .inl (g 0, 36, .inl n_fweights))] := hD
      refine lv_goto (tgt := 123) hx hb dX7_takeBack_79 (by decide) ?_
      have hP9 := hP.sub (ws' := [(st, .inr (7, [.ref st_what, .ref st_node, .ref st_index, .ref st_before, .int v_95612])), (st_what, .inl (g 0, 8, .inl stw)), (st_node, .inl (g 0, 8, .inl stn)), (st_index, .inl (g 0, 8, .inl sti)), (st_before, .inl (g 0, 8, .inl stb)), (n, .inr (2, [.int n_nodes, .ref n_kind, .ref n_pay, .ref n_name, .ref n_ways, .ref n_held, .ref n_targets, .ref n_weights])), (n_pay, .inl (g 0, 12, .inl n_fpay)), (n_held, .inl (g 0, 12, .inl f_95618)), (n_weights, .inl (g 0, 36, .inl n_fweights))]) [0, 1, 2, 3, 4, 5, 6, 7, 8] rfl
      have hD9 := hD.sub (ws' := [(st, .inr (7, [.ref st_what, .ref st_node, .ref st_index, .ref st_before, .int v_95612])), (st_what, .inl (g 0, 8, .inl stw)), (st_node, .inl (g 0, 8, .inl stn)), (st_index, .inl (g 0, 8, .inl sti)), (st_before, .inl (g 0, 8, .inl stb)), (n, .inr (2, [.int n_nodes, .ref n_kind, .ref n_pay, .ref n_name, .ref n_ways, .ref n_held, .ref n_targets, .ref n_weights])), (n_pay, .inl (g 0, 12, .inl n_fpay)), (n_held, .inl (g 0, 12, .inl f_95618)), (n_weights, .inl (g 0, 36, .inl n_fweights))]) [0, 1, 2, 3, 4, 5, 6, 7, 8] (by decide) rfl
      exact W.vret hx hb hr (fun t ht hW => ⟨⟨(), rfl, trivial, v_95612, n_fpay, f_95618, n_fweights, (tr_w h_v_95612 (by decide) (by decide)), (tr_wa h_f_95618 (by decide) (by decide)), (fun _ => ⟨by omega, fun k9 n9 w9 t9 => by rw [(by omega : ((stc : Int32).toInt.toNat - 1) = v_95612.toInt.toNat), ← gi_v_95614, ← gi_v_95613, ← gi_v_95617]; rw [cell_h (by have z_0 := tk_0; omega), f_95618_e]; exact absC_setH (by show Int.toNat _ < 12; omega)⟩), by rw [ht]; exact hP9, hD9⟩, hS.F ht⟩) hS.2.2 dX7_takeBack_123
    · have e_95615_n : ¬ (v_95614 : Int32).toInt = 0 := fun q => e_95615 (Int32.toInt_inj.mp (q.trans (by decide)))
      by_cases e_95619 : v_95614 = 1
      · skip
        have h_95620 : 1 ≤ (v_95614 : Int32).toInt ∧ (v_95614 : Int32).toInt ≤ 1 := by rw [e_95619]; exact ⟨by decide, by decide⟩
        refine lv_lookup (off := 45) (tgt := 82) hx hb dX7_takeBack_37 (by decide) (by rw [e_95619]; decide) (by decide) ?_
        refine lv_aload_n hx hb dX7_takeBack_82 rfl (lv_at hl 2 rfl) ?_
        refine lv_iload_n hx hb dX7_takeBack_83 rfl (lv_at hl 0 rfl) ?_
        refine lv_aload_n hx hb dX7_takeBack_84 rfl (lv_at hl 1 rfl) ?_
        refine va_get (D := D) (ci := 7) (v := .ref st_index) (C := RX7) (T := TX7) (N := 5) hx hb hts inlX7 hown hK hP 0 rfl rfl 2 (by decide) (hts (Cond.fieldLink RX7 18 "ChanceRings$Steps" "index" "[I") qw_623) (fun _ h9 => h9) rfl dX7_takeBack_85 ?_
        refine lv_aload_n hx hb dX7_takeBack_88 rfl (lv_at hl 1 rfl) ?_
        refine va_get (D := D) (ci := 7) (v := .int v_95612) (C := RX7) (T := TX7) (N := 5) hx hb hts inlX7 hown hK hP 0 rfl rfl 4 (by decide) (hts (Cond.fieldLink RX7 24 "ChanceRings$Steps" "count" "I") qw_619) (fun _ h9 => h9) rfl dX7_takeBack_89 ?_
        refine va_iald hx hb hK hP 3 0 rfl rfl (tr_in h_v_95612 (by decide) (by decide)) dX7_takeBack_92 ?_
        refine lv_topi (fun v_95621 v_95621_e => ?_)
        have h_v_95621 : 0 ≤ (v_95621 : Int32).toInt ∧ (v_95621 : Int32).toInt ≤ 2 := by rw [v_95621_e]; exact h_sti _
        have g_v_95621 : v_95621 = sti (v_95612.toInt.toNat) := v_95621_e.trans (congrArg sti rfl)
        have gi_v_95621 := congrArg Int32.toInt g_v_95621
        refine lv_aload_n hx hb dX7_takeBack_93 rfl (lv_at hl 1 rfl) ?_
        refine va_get (D := D) (ci := 7) (v := .ref st_before) (C := RX7) (T := TX7) (N := 5) hx hb hts inlX7 hown hK hP 0 rfl rfl 3 (by decide) (hts (Cond.fieldLink RX7 21 "ChanceRings$Steps" "before" "[I") qw_624) (fun _ h9 => h9) rfl dX7_takeBack_94 ?_
        refine lv_aload_n hx hb dX7_takeBack_97 rfl (lv_at hl 1 rfl) ?_
        refine va_get (D := D) (ci := 7) (v := .int v_95612) (C := RX7) (T := TX7) (N := 5) hx hb hts inlX7 hown hK hP 0 rfl rfl 4 (by decide) (hts (Cond.fieldLink RX7 24 "ChanceRings$Steps" "count" "I") qw_619) (fun _ h9 => h9) rfl dX7_takeBack_98 ?_
        refine va_iald hx hb hK hP 4 0 rfl rfl (tr_in h_v_95612 (by decide) (by decide)) dX7_takeBack_101 ?_
        refine lv_topi (fun v_95622 v_95622_e => ?_)
        have g_v_95622 : v_95622 = stb (v_95612.toInt.toNat) := v_95622_e.trans (congrArg stb rfl)
        have gi_v_95622 := congrArg Int32.toInt g_v_95622
        have hPc := hP.sub (ws' := [(n, .inr (2, [.int n_nodes, .ref n_kind, .ref n_pay, .ref n_name, .ref n_ways, .ref n_held, .ref n_targets, .ref n_weights])), (n_weights, .inl (g 0, 36, .inl n_fweights))]) [5, 8] rfl
        have hDc := hD.sub (ws' := [(n, .inr (2, [.int n_nodes, .ref n_kind, .ref n_pay, .ref n_name, .ref n_ways, .ref n_held, .ref n_targets, .ref n_weights])), (n_weights, .inl (g 0, 36, .inl n_fweights))]) [5, 8] (by decide) rfl
        have hFc := va_free (wc := [(n, .inr (2, [.int n_nodes, .ref n_kind, .ref n_pay, .ref n_name, .ref n_ways, .ref n_held, .ref n_targets, .ref n_weights])), (n_weights, .inl (g 0, 36, .inl n_fweights))]) hD hS hA [5, 8] rfl
        refine va_callv (va_runV (As := [.int v_95613, .int v_95621, .int v_95622]) (rest := []) ⟨hx, hb, hml, hown, hts⟩ (c_X2_setWeightN l D g H.size n v_95613 v_95621 v_95622 n_nodes n_kind n_pay n_name n_ways n_held n_targets n_weights n_fweights (tr_w h_v_95613 (by decide) (by decide)) (tr_w h_v_95621 (by decide) (by decide)) (tr_w h_n_nodes (by decide) (by decide))) (cwV 3 hts (tz_gV qw_631 qw_632 qw_633 qw_322 qw_634) rfl rfl rfl (by decide +kernel) ⟨Nat.le_of_ble_eq_true rfl, Nat.le_of_ble_eq_true rfl⟩) ⟨tz_blQ, va_recv hK hPc (ci := 2) (q0 := 0) rfl rfl, tz_preQ hPc hK hDc⟩ rfl rfl hl.1 rfl (lv_room (Nat.le_of_ble_eq_true rfl)) dX7_takeBack_102 ⟨Nat.le_of_ble_eq_true rfl, Nat.le_of_ble_eq_true rfl⟩) hS (fun q _ h => hFc q h) hFc (fun u t H1 locs ht hvm hw hB hz1 hk1 hS => ?_)
        obtain ⟨n_gweights_95624, hf_95625, hP1, hD1⟩ := hB
        rw [ht] at hP1
        obtain ⟨hP, hD⟩ := va_join (wr := [(st, .inr (7, [.ref st_what, .ref st_node, .ref st_index, .ref st_before, .int v_95612])), (st_what, .inl (g 0, 8, .inl stw)), (st_node, .inl (g 0, 8, .inl stn)), (st_index, .inl (g 0, 8, .inl sti)), (st_before, .inl (g 0, 8, .inl stb)), (n_pay, .inl (g 0, 12, .inl n_fpay)), (n_held, .inl (g 0, 12, .inl n_fheld))]) (w1 := [(n, .inr (2, [.int n_nodes, .ref n_kind, .ref n_pay, .ref n_name, .ref n_ways, .ref n_held, .ref n_targets, .ref n_weights])), (n_weights, .inl (g 0, 36, .inl n_gweights_95624))]) hP hD [5, 8] [0, 1, 2, 3, 4, 6, 7] rfl rfl (by decide) (by decide) hk1 hFc hP1 hD1
        generalize H1 = H at hP hS ⊢
        have hP : va_P D vwCl [(st, .inr (7, [.ref st_what, .ref st_node, .ref st_index, .ref st_before, .int v_95612])), (st_what, .inl (g 0, 8, .inl stw)), (st_node, .inl (g 0, 8, .inl stn)), (st_index, .inl (g 0, 8, .inl sti)), (st_before, .inl (g 0, 8, .inl stb)), (n_pay, .inl (g 0, 12, .inl n_fpay)), (n_held, .inl (g 0, 12, .inl n_fheld)), (n, .inr (2, [.int n_nodes, .ref n_kind, .ref n_pay, .ref n_name, .ref n_ways, .ref n_held, .ref n_targets, .ref n_weights])), (n_weights, .inl (g 0, 36, .inl n_gweights_95624))] H := hP
        have hD : va_D A [(st, .inr (7, [.ref st_what, .ref st_node, .ref st_index, .ref st_before, .int v_95612])), (st_what, .inl (g 0, 8, .inl stw)), (st_node, .inl (g 0, 8, .inl stn)), (st_index, .inl (g 0, 8, .inl sti)), (st_before, .inl (g 0, 8, .inl stb)), (n_pay, .inl (g 0, 12, .inl n_fpay)), (n_held, .inl (g 0, 12, .inl n_fheld)), (n, .inr (2, [.int n_nodes, .ref n_kind, .ref n_pay, .ref n_name, .ref n_ways, .ref n_held, .ref n_targets, .ref n_weights])), (n_weights, .inl (g 0, 36, .inl n_gweights_95624))] := hD
        refine lv_goto (tgt := 123) hx hb dX7_takeBack_105 (by decide) ?_
        have hP9 := hP.sub (ws' := [(st, .inr (7, [.ref st_what, .ref st_node, .ref st_index, .ref st_before, .int v_95612])), (st_what, .inl (g 0, 8, .inl stw)), (st_node, .inl (g 0, 8, .inl stn)), (st_index, .inl (g 0, 8, .inl sti)), (st_before, .inl (g 0, 8, .inl stb)), (n, .inr (2, [.int n_nodes, .ref n_kind, .ref n_pay, .ref n_name, .ref n_ways, .ref n_held, .ref n_targets, .ref n_weights])), (n_pay, .inl (g 0, 12, .inl n_fpay)), (n_held, .inl (g 0, 12, .inl n_fheld)), (n_weights, .inl (g 0, 36, .inl n_gweights_95624))]) [0, 1, 2, 3, 4, 7, 5, 6, 8] rfl
        have hD9 := hD.sub (ws' := [(st, .inr (7, [.ref st_what, .ref st_node, .ref st_index, .ref st_before, .int v_95612])), (st_what, .inl (g 0, 8, .inl stw)), (st_node, .inl (g 0, 8, .inl stn)), (st_index, .inl (g 0, 8, .inl sti)), (st_before, .inl (g 0, 8, .inl stb)), (n, .inr (2, [.int n_nodes, .ref n_kind, .ref n_pay, .ref n_name, .ref n_ways, .ref n_held, .ref n_targets, .ref n_weights])), (n_pay, .inl (g 0, 12, .inl n_fpay)), (n_held, .inl (g 0, 12, .inl n_fheld)), (n_weights, .inl (g 0, 36, .inl n_gweights_95624))]) [0, 1, 2, 3, 4, 7, 5, 6, 8] (by decide) rfl
        exact W.vret hx hb hr (fun t ht hW => ⟨⟨(), rfl, trivial, v_95612, n_fpay, n_fheld, n_gweights_95624, (tr_w h_v_95612 (by decide) (by decide)), (tr_wa h_n_fheld (by decide) (by decide)), (fun _ => ⟨by omega, fun k9 n9 w9 t9 => by rw [(by omega : ((stc : Int32).toInt.toNat - 1) = v_95612.toInt.toNat), ← gi_v_95614, ← gi_v_95613, ← gi_v_95621, ← gi_v_95622]; rw [cell_x (by have z_1 := tk_1; omega), hf_95625]; exact absC_setX (by omega) (by omega)⟩), by rw [ht]; exact hP9, hD9⟩, hS.F ht⟩) hS.2.2 dX7_takeBack_123
      · have e_95619_n : ¬ (v_95614 : Int32).toInt = 1 := fun q => e_95619 (Int32.toInt_inj.mp (q.trans (by decide)))
        have e_95626 : v_95614 = 2 := Int32.toInt_inj.mp (((by have q1 := h_v_95614; omega) : (v_95614 : Int32).toInt = 2).trans (by decide))
        have h_95627 : 2 ≤ (v_95614 : Int32).toInt ∧ (v_95614 : Int32).toInt ≤ 2 := by rw [e_95626]; exact ⟨by decide, by decide⟩
        refine lv_lookup (off := 71) (tgt := 108) hx hb dX7_takeBack_37 (by decide) (by rw [e_95626]; decide) (by decide) ?_
        refine lv_aload_n hx hb dX7_takeBack_108 rfl (lv_at hl 2 rfl) ?_
        refine va_get (D := D) (ci := 2) (v := .ref n_pay) (C := RX2) (T := TX2) (N := 8) hx hb hts inlX2 hown hK hP 5 rfl rfl 2 (by decide) (hts (Cond.fieldLink RX7 46 "ChanceRings$Net" "pay" "[I") qw_635) (fun _ h9 => h9) rfl dX7_takeBack_109 ?_
        refine lv_iload_n hx hb dX7_takeBack_112 rfl (lv_at hl 0 rfl) ?_
        refine lv_aload_n hx hb dX7_takeBack_113 rfl (lv_at hl 1 rfl) ?_
        refine va_get (D := D) (ci := 7) (v := .ref st_before) (C := RX7) (T := TX7) (N := 5) hx hb hts inlX7 hown hK hP 0 rfl rfl 3 (by decide) (hts (Cond.fieldLink RX7 21 "ChanceRings$Steps" "before" "[I") qw_624) (fun _ h9 => h9) rfl dX7_takeBack_114 ?_
        refine lv_aload_n hx hb dX7_takeBack_117 rfl (lv_at hl 1 rfl) ?_
        refine va_get (D := D) (ci := 7) (v := .int v_95612) (C := RX7) (T := TX7) (N := 5) hx hb hts inlX7 hown hK hP 0 rfl rfl 4 (by decide) (hts (Cond.fieldLink RX7 24 "ChanceRings$Steps" "count" "I") qw_619) (fun _ h9 => h9) rfl dX7_takeBack_118 ?_
        refine va_iald hx hb hK hP 4 0 rfl rfl (tr_in h_v_95612 (by decide) (by decide)) dX7_takeBack_121 ?_
        refine lv_topi (fun v_95628 v_95628_e => ?_)
        have g_v_95628 : v_95628 = stb (v_95612.toInt.toNat) := v_95628_e.trans (congrArg stb rfl)
        have gi_v_95628 := congrArg Int32.toInt g_v_95628
        refine va_iast hx hb hK hP hD hS 6 0 rfl rfl (tr_in h_v_95613 (by decide) (by decide)) dX7_takeBack_122 (fun H locs hP hD hS => ?_)
        obtain ⟨f_95629, f_95629_e, hP, hD⟩ : ∃ FX : Nat → Int32, FX = (upd n_fpay (v_95613 : Int32).toNatClampNeg v_95628) ∧ va_P D vwCl [(st, .inr (7, [.ref st_what, .ref st_node, .ref st_index, .ref st_before, .int v_95612])), (st_what, .inl (g 0, 8, .inl stw)), (st_node, .inl (g 0, 8, .inl stn)), (st_index, .inl (g 0, 8, .inl sti)), (st_before, .inl (g 0, 8, .inl stb)), (n, .inr (2, [.int n_nodes, .ref n_kind, .ref n_pay, .ref n_name, .ref n_ways, .ref n_held, .ref n_targets, .ref n_weights])), (n_pay, .inl (g 0, 12, .inl FX)), (n_held, .inl (g 0, 12, .inl n_fheld)), (n_weights, .inl (g 0, 36, .inl n_fweights))] H ∧ va_D A [(st, .inr (7, [.ref st_what, .ref st_node, .ref st_index, .ref st_before, .int v_95612])), (st_what, .inl (g 0, 8, .inl stw)), (st_node, .inl (g 0, 8, .inl stn)), (st_index, .inl (g 0, 8, .inl sti)), (st_before, .inl (g 0, 8, .inl stb)), (n, .inr (2, [.int n_nodes, .ref n_kind, .ref n_pay, .ref n_name, .ref n_ways, .ref n_held, .ref n_targets, .ref n_weights])), (n_pay, .inl (g 0, 12, .inl FX)), (n_held, .inl (g 0, 12, .inl n_fheld)), (n_weights, .inl (g 0, 36, .inl n_fweights))] := ⟨_, rfl, hP, hD⟩
        have hP : va_P D vwCl [(st, .inr (7, [.ref st_what, .ref st_node, .ref st_index, .ref st_before, .int v_95612])), (st_what, .inl (g 0, 8, .inl stw)), (st_node, .inl (g 0, 8, .inl stn)), (st_index, .inl (g 0, 8, .inl sti)), (st_before, .inl (g 0, 8, .inl stb)), (n, .inr (2, [.int n_nodes, .ref n_kind, .ref n_pay, .ref n_name, .ref n_ways, .ref n_held, .ref n_targets, .ref n_weights])), (n_pay, .inl (g 0, 12, .inl f_95629)), (n_held, .inl (g 0, 12, .inl n_fheld)), (n_weights, .inl (g 0, 36, .inl n_fweights))] H := hP
        have hD : va_D A [(st, .inr (7, [.ref st_what, .ref st_node, .ref st_index, .ref st_before, .int v_95612])), (st_what, .inl (g 0, 8, .inl stw)), (st_node, .inl (g 0, 8, .inl stn)), (st_index, .inl (g 0, 8, .inl sti)), (st_before, .inl (g 0, 8, .inl stb)), (n, .inr (2, [.int n_nodes, .ref n_kind, .ref n_pay, .ref n_name, .ref n_ways, .ref n_held, .ref n_targets, .ref n_weights])), (n_pay, .inl (g 0, 12, .inl f_95629)), (n_held, .inl (g 0, 12, .inl n_fheld)), (n_weights, .inl (g 0, 36, .inl n_fweights))] := hD
        have hP9 := hP.sub (ws' := [(st, .inr (7, [.ref st_what, .ref st_node, .ref st_index, .ref st_before, .int v_95612])), (st_what, .inl (g 0, 8, .inl stw)), (st_node, .inl (g 0, 8, .inl stn)), (st_index, .inl (g 0, 8, .inl sti)), (st_before, .inl (g 0, 8, .inl stb)), (n, .inr (2, [.int n_nodes, .ref n_kind, .ref n_pay, .ref n_name, .ref n_ways, .ref n_held, .ref n_targets, .ref n_weights])), (n_pay, .inl (g 0, 12, .inl f_95629)), (n_held, .inl (g 0, 12, .inl n_fheld)), (n_weights, .inl (g 0, 36, .inl n_fweights))]) [0, 1, 2, 3, 4, 5, 6, 7, 8] rfl
        have hD9 := hD.sub (ws' := [(st, .inr (7, [.ref st_what, .ref st_node, .ref st_index, .ref st_before, .int v_95612])), (st_what, .inl (g 0, 8, .inl stw)), (st_node, .inl (g 0, 8, .inl stn)), (st_index, .inl (g 0, 8, .inl sti)), (st_before, .inl (g 0, 8, .inl stb)), (n, .inr (2, [.int n_nodes, .ref n_kind, .ref n_pay, .ref n_name, .ref n_ways, .ref n_held, .ref n_targets, .ref n_weights])), (n_pay, .inl (g 0, 12, .inl f_95629)), (n_held, .inl (g 0, 12, .inl n_fheld)), (n_weights, .inl (g 0, 36, .inl n_fweights))]) [0, 1, 2, 3, 4, 5, 6, 7, 8] (by decide) rfl
        exact W.vret hx hb hr (fun t ht hW => ⟨⟨(), rfl, trivial, v_95612, f_95629, n_fheld, n_fweights, (tr_w h_v_95612 (by decide) (by decide)), (tr_wa h_n_fheld (by decide) (by decide)), (fun _ => ⟨by omega, fun k9 n9 w9 t9 => by rw [(by omega : ((stc : Int32).toInt.toNat - 1) = v_95612.toInt.toNat), ← gi_v_95614, ← gi_v_95613, ← gi_v_95628]; rw [cell_p (by have z_0 := tk_0; omega) (by have z_1 := tk_1; omega), f_95629_e]; exact absC_setP (by show Int.toNat _ < 12; omega)⟩), by rw [ht]; exact hP9, hD9⟩, hS.F ht⟩) hS.2.2 dX7_takeBack_123
  · skip
    have kk_0 := tk_0
    have c_95609_i := Int32.le_iff_toInt_le.mp (Int32.not_lt.mp c_95609)
    have h_95611 : 0 ≤ (stc : Int32).toInt ∧ (stc : Int32).toInt ≤ 0 := nr_le_l h_stc (⟨by decide, by decide⟩ : 0 ≤ (0 : Int32).toInt ∧ (0 : Int32).toInt ≤ 0) c_95609_i (by decide) (by decide)
    have hP9 := hP.sub (ws' := [(st, .inr (7, [.ref st_what, .ref st_node, .ref st_index, .ref st_before, .int stc])), (st_what, .inl (g 0, 8, .inl stw)), (st_node, .inl (g 0, 8, .inl stn)), (st_index, .inl (g 0, 8, .inl sti)), (st_before, .inl (g 0, 8, .inl stb)), (n, .inr (2, [.int n_nodes, .ref n_kind, .ref n_pay, .ref n_name, .ref n_ways, .ref n_held, .ref n_targets, .ref n_weights])), (n_pay, .inl (g 0, 12, .inl n_fpay)), (n_held, .inl (g 0, 12, .inl n_fheld)), (n_weights, .inl (g 0, 36, .inl n_fweights))]) [0, 1, 2, 3, 4, 5, 6, 7, 8] rfl
    have hD9 := hD.sub (ws' := [(st, .inr (7, [.ref st_what, .ref st_node, .ref st_index, .ref st_before, .int stc])), (st_what, .inl (g 0, 8, .inl stw)), (st_node, .inl (g 0, 8, .inl stn)), (st_index, .inl (g 0, 8, .inl sti)), (st_before, .inl (g 0, 8, .inl stb)), (n, .inr (2, [.int n_nodes, .ref n_kind, .ref n_pay, .ref n_name, .ref n_ways, .ref n_held, .ref n_targets, .ref n_weights])), (n_pay, .inl (g 0, 12, .inl n_fpay)), (n_held, .inl (g 0, 12, .inl n_fheld)), (n_weights, .inl (g 0, 36, .inl n_fweights))]) [0, 1, 2, 3, 4, 5, 6, 7, 8] (by decide) rfl
    exact W.vret hx hb hr (fun t ht hW => ⟨⟨(), rfl, trivial, stc, n_fpay, n_fheld, n_fweights, (tr_w h_95611 (by decide) (by decide)), (tr_wa h_n_fheld (by decide) (by decide)), (fun h9 => absurd h9 (by have z_0 := tk_0; omega)), by rw [ht]; exact hP9, hD9⟩, hS.F ht⟩) hS.2.2 dX7_takeBack_7
