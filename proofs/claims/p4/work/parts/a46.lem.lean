theorem all_next {P : Nat → Prop} {i j : Nat} (h : ∀ k : Nat, k < i → P k) (hi : P i) (e : j = i + 1) : ∀ k : Nat, k < j → P k := fun k hk => by
  by_cases q : k = i
  · subst q; exact hi
  · exact h k (by omega)
theorem upd_fill2 {F G : Nat → Int32} {v x : Int32} {i j a : Nat} (h : ∀ k : Nat, k < i → F k = v) (hG : G = upd F a x) (ha : a = i) (hx : x = v) (e : j = i + 1) : ∀ k : Nat, k < j → G k = v := by
  subst e; exact upd_fill h hG ha hx
theorem held_fill {F G : Nat → Int32} {x : Int32} {i j a : Nat} (h : (∀ k : Nat, k < 193 → (k < 109 ∨ 121 ≤ k) → F k = 0) ∧ ∀ k : Nat, k < i → F (109 + k) = (-1)) (hG : G = upd F a x) (ha : a = 109 + i) (hi : i < 12) (hx : x = (-1)) (e : j = i + 1) : (∀ k : Nat, k < 193 → (k < 109 ∨ 121 ≤ k) → G k = 0) ∧ ∀ k : Nat, k < j → G (109 + k) = (-1) := by
  subst hx ha e hG
  refine ⟨fun k q1 q2 => ?_, fun k q => ?_⟩
  · rw [upd_ne _ _ (by omega)]; exact h.1 k q1 q2
  · by_cases e : k = i
    · subst e; rw [upd_at]
    · rw [upd_ne _ _ (by omega)]; exact h.2 k (by omega)
theorem gp_fill {F : Nat → Int32} (h : (∀ k : Nat, k < 193 → (k < 109 ∨ 121 ≤ k) → F k = 0) ∧ ∀ k : Nat, k < 12 → F (109 + k) = (-1)) : GP F := gp_zero h.1 (fun k q => Or.inl (h.2 k q))
/-- the tried ways: each one a way of its node, the held one where one is held -/
def tw1 (f : Nat → Int32) (v : Int) (k : Nat) : Prop := (¬ (f (1 + k)).toInt = 0 → v < (f (25 + k)).toInt) ∧ (0 ≤ (f (109 + k)).toInt → ¬ (f (1 + k)).toInt = 0 → v = (f (109 + k)).toInt)
def TW (t f : Nat → Int32) : Prop := ∀ k : Nat, k < 12 → tw1 f (t k).toInt k
theorem tw_next {f F G : Nat → Int32} {x : Int32} {i j a : Nat} (h : ∀ k : Nat, k < i → tw1 f (F k).toInt k) (hG : G = upd F a x) (ha : a = i) (hx : tw1 f x.toInt i) (e : j = i + 1) : ∀ k : Nat, k < j → tw1 f (G k).toInt k := by
  subst ha e hG
  refine all_next (i := a) (fun k q => ?_) ?_ rfl
  · rw [upd_ne _ _ (by omega)]; exact h k q
  · rw [upd_at]; exact hx
theorem tw_zero {f : Nat → Int32} (h : GS f) {x : Int32} (hx : x.toInt = 0) {k : Nat} (hk : k < 12) (hh : (k : Int) < (f 0).toInt → (f (109 + k)).toInt ≤ 0) : tw1 f x.toInt k := by
  rw [hx]
  refine ⟨fun e => ?_, fun e1 e2 => ?_⟩
  · have := h.2 k hk e; omega
  · by_cases q : (f 0).toInt ≤ k
    · exact absurd (h.1.2.1 k hk q).1 e2
    · have := hh (by omega); omega
theorem tw_held {f : Nat → Int32} (h : GS f) {x : Int32} {k : Nat} (hk : k < 12) (hx : x = f (109 + k)) : tw1 f x.toInt k := by
  subst hx
  exact ⟨fun e => h.1.2.2.2.2.2.1 k hk e, fun _ _ => rfl⟩
/-- so many rows, one behind the other -/
def KS (f : Nat → Int32) (n : Nat) : Prop := ∀ j : Nat, j < n → GS (sl f (193 * j))
theorem ks_put {f h g : Nat → Int32} {n u a b : Nat} (hK : KS h n) (hf : GS f) (ha : a = 0) (hb : b = 193 * u) (hg : g = va_cpy f h a b 193) : KS g n := fun j hj => by
  subst ha hb
  by_cases e : j = u
  · subst e
    exact gs_cpy_in (by rw [sl_zero]; exact hf) hg
  · exact gs_cpy_out (hK j hj) hg (by omega)
theorem ks_get {f h g : Nat → Int32} {n u a b : Nat} (hK : KS f n) (hu : u < n) (ha : a = 193 * u) (hb : b = 0) (hg : g = va_cpy f h a b 193) : GS g := by
  subst ha hb
  have := gs_cpy_in (hK u hu) hg
  rwa [sl_zero] at this
theorem gs_copy {f h g : Nat → Int32} {a b : Nat} (hf : GS f) (ha : a = 0) (hb : b = 0) (hg : g = va_cpy f h a b 193) : GS g := by
  subst ha hb
  have := gs_cpy_in (sp := 0) (dp := 0) (by rw [sl_zero]; exact hf) hg
  rwa [sl_zero] at this
theorem ks_shift {f F : Nat → Int32} {i : Nat} (hi : i = 1351) (h : (∀ j : Nat, j < i → F j = f (j + 193)) ∧ ∀ j : Nat, i ≤ j → F j = f j) (hK : KS f 8) : KS F 8 := fun j hj => by
  subst hi
  by_cases e : j = 7
  · subst e
    exact gs_cong (hK 7 (by omega)) (fun k hk => h.2 _ (by omega))
  · refine gs_cong (hK (j + 1) (by omega)) (fun k hk => ?_)
    show F (193 * j + k) = f (193 * (j + 1) + k)
    rw [h.1 _ (by omega)]
    congr 1; omega
theorem shift_next {f F G : Nat → Int32} {x : Int32} {i j a : Nat} (h : (∀ j : Nat, j < i → F j = f (j + 193)) ∧ ∀ j : Nat, i ≤ j → F j = f j) (hG : G = upd F a x) (ha : a = i) (hx : x = F (i + 193)) (e : j = i + 1) : (∀ k : Nat, k < j → G k = f (k + 193)) ∧ ∀ k : Nat, j ≤ k → G k = f k := by
  subst ha e hG hx
  refine ⟨fun k q => ?_, fun k q => ?_⟩
  · by_cases e : k = a
    · subst e; rw [upd_at, h.2 _ (by omega)]
    · rw [upd_ne _ _ e]; exact h.1 k (by omega)
  · rw [upd_ne _ _ (by omega)]; exact h.2 k (by omega)
theorem qw_40 : Cond.methodLink RX12 138 yX12_manyOf ∈ wsL_law := tseg_6 (by decide +kernel) (List.mem_of_getElem? (i := 67) (by decide +kernel))
theorem qw_41 : Cond.instanceMethod yX12_manyOf ∈ wsL_law := tseg_6 (by decide +kernel) (List.mem_of_getElem? (i := 69) (by decide +kernel))
theorem qw_42 : Cond.selects RX12 yX12_manyOf yX12_manyOf ∈ wsL_law := List.mem_filter.mpr ⟨List.mem_append_left _ (List.mem_of_getElem? (i := 60) (by decide +kernel)), by decide +kernel⟩
theorem qw_43 : Cond.code yX12_manyOf cX12_manyOf 5 (some .int) ∈ wsL_law := tseg_6 (by decide +kernel) (List.mem_of_getElem? (i := 70) (by decide +kernel))
theorem qw_44 : Cond.methodLink RX12 142 yX12_badHere ∈ wsL_law := tseg_6 (by decide +kernel) (List.mem_of_getElem? (i := 44) (by decide +kernel))
theorem qw_45 : Cond.instanceMethod yX12_badHere ∈ wsL_law := tseg_6 (by decide +kernel) (List.mem_of_getElem? (i := 46) (by decide +kernel))
theorem qw_46 : Cond.selects RX12 yX12_badHere yX12_badHere ∈ wsL_law := List.mem_filter.mpr ⟨List.mem_append_left _ (List.mem_of_getElem? (i := 55) (by decide +kernel)), by decide +kernel⟩
theorem qw_47 : Cond.code yX12_badHere cX12_badHere 2 (some .boolean) ∈ wsL_law := tseg_6 (by decide +kernel) (List.mem_of_getElem? (i := 47) (by decide +kernel))
theorem qw_48 : Cond.methodLink RX12 145 yX12_next ∈ wsL_law := tseg_6 (by decide +kernel) (List.mem_of_getElem? (i := 21) (by decide +kernel))
theorem qw_49 : Cond.instanceMethod yX12_next ∈ wsL_law := tseg_6 (by decide +kernel) (List.mem_of_getElem? (i := 23) (by decide +kernel))
theorem qw_50 : Cond.selects RX12 yX12_next yX12_next ∈ wsL_law := List.mem_filter.mpr ⟨List.mem_append_left _ (List.mem_of_getElem? (i := 52) (by decide +kernel)), by decide +kernel⟩
theorem qw_51 : Cond.code yX12_next cX12_next 4 none ∈ wsL_law := tseg_6 (by decide +kernel) (List.mem_of_getElem? (i := 24) (by decide +kernel))
theorem qw_52 : Cond.methodLink RX12 148 yX12_isName ∈ wsL_law := tseg_6 (by decide +kernel) (List.mem_of_getElem? (i := 52) (by decide +kernel))
theorem qw_53 : Cond.instanceMethod yX12_isName ∈ wsL_law := tseg_6 (by decide +kernel) (List.mem_of_getElem? (i := 54) (by decide +kernel))
theorem qw_54 : Cond.selects RX12 yX12_isName yX12_isName ∈ wsL_law := List.mem_filter.mpr ⟨List.mem_append_left _ (List.mem_of_getElem? (i := 57) (by decide +kernel)), by decide +kernel⟩
theorem qw_55 : Cond.code yX12_isName cX12_isName 1 (some .boolean) ∈ wsL_law := tseg_6 (by decide +kernel) (List.mem_of_getElem? (i := 55) (by decide +kernel))
theorem qw_56 : Cond.methodLink RX12 152 yX12_named ∈ wsL_law := tseg_6 (by decide +kernel) (List.mem_of_getElem? (i := 56) (by decide +kernel))
theorem qw_57 : Cond.instanceMethod yX12_named ∈ wsL_law := tseg_6 (by decide +kernel) (List.mem_of_getElem? (i := 58) (by decide +kernel))
theorem qw_58 : Cond.selects RX12 yX12_named yX12_named ∈ wsL_law := List.mem_filter.mpr ⟨List.mem_append_left _ (List.mem_of_getElem? (i := 58) (by decide +kernel)), by decide +kernel⟩
theorem qw_59 : Cond.code yX12_named cX12_named 4 (some .int) ∈ wsL_law := tseg_6 (by decide +kernel) (List.mem_of_getElem? (i := 59) (by decide +kernel))
theorem dX12_nodeLine_0 : decode cX12_nodeLine 0 = .ok (.iload_n 1, 1) := by decide +kernel
theorem dX12_nodeLine_1 : decode cX12_nodeLine 1 = .ok (.ifCond .ne 24, 3) := by decide +kernel
theorem dX12_nodeLine_4 : decode cX12_nodeLine 4 = .ok (.aload_n 0, 1) := by decide +kernel
theorem dX12_nodeLine_5 : decode cX12_nodeLine 5 = .ok (.aload_n 0, 1) := by decide +kernel
theorem dX12_nodeLine_6 : decode cX12_nodeLine 6 = .ok (.getfield 17, 3) := by decide +kernel
theorem dX12_nodeLine_9 : decode cX12_nodeLine 9 = .ok (.iconst 0, 1) := by decide +kernel
theorem dX12_nodeLine_10 : decode cX12_nodeLine 10 = .ok (.invokevirtual 138, 3) := by decide +kernel
theorem dX12_nodeLine_13 : decode cX12_nodeLine 13 = .ok (.iconst 4, 1) := by decide +kernel
theorem dX12_nodeLine_14 : decode cX12_nodeLine 14 = .ok (.if_icmp .ne 7, 3) := by decide +kernel
theorem dX12_nodeLine_17 : decode cX12_nodeLine 17 = .ok (.iconst 1, 1) := by decide +kernel
theorem dX12_nodeLine_18 : decode cX12_nodeLine 18 = .ok (.goto 51, 3) := by decide +kernel
theorem dX12_nodeLine_21 : decode cX12_nodeLine 21 = .ok (.iconst 0, 1) := by decide +kernel
theorem dX12_nodeLine_22 : decode cX12_nodeLine 22 = .ok (.goto 47, 3) := by decide +kernel
theorem dX12_nodeLine_25 : decode cX12_nodeLine 25 = .ok (.aload_n 0, 1) := by decide +kernel
theorem dX12_nodeLine_26 : decode cX12_nodeLine 26 = .ok (.getfield 17, 3) := by decide +kernel
theorem dX12_nodeLine_29 : decode cX12_nodeLine 29 = .ok (.iconst 0, 1) := by decide +kernel
theorem dX12_nodeLine_30 : decode cX12_nodeLine 30 = .ok (.iaload, 1) := by decide +kernel
theorem dX12_nodeLine_31 : decode cX12_nodeLine 31 = .ok (.aload_n 0, 1) := by decide +kernel
theorem dX12_nodeLine_32 : decode cX12_nodeLine 32 = .ok (.aload_n 0, 1) := by decide +kernel
theorem dX12_nodeLine_33 : decode cX12_nodeLine 33 = .ok (.getfield 17, 3) := by decide +kernel
theorem dX12_nodeLine_36 : decode cX12_nodeLine 36 = .ok (.iconst 0, 1) := by decide +kernel
theorem dX12_nodeLine_37 : decode cX12_nodeLine 37 = .ok (.invokevirtual 138, 3) := by decide +kernel
theorem dX12_nodeLine_40 : decode cX12_nodeLine 40 = .ok (.isub, 1) := by decide +kernel
theorem dX12_nodeLine_41 : decode cX12_nodeLine 41 = .ok (.bipush 8, 2) := by decide +kernel
theorem dX12_nodeLine_43 : decode cX12_nodeLine 43 = .ok (.if_icmp .eq 21, 3) := by decide +kernel
theorem dX12_nodeLine_46 : decode cX12_nodeLine 46 = .ok (.iload_n 1, 1) := by decide +kernel
theorem dX12_nodeLine_47 : decode cX12_nodeLine 47 = .ok (.iconst 3, 1) := by decide +kernel
theorem dX12_nodeLine_48 : decode cX12_nodeLine 48 = .ok (.if_icmp .ne 20, 3) := by decide +kernel
theorem dX12_nodeLine_51 : decode cX12_nodeLine 51 = .ok (.aload_n 0, 1) := by decide +kernel
theorem dX12_nodeLine_52 : decode cX12_nodeLine 52 = .ok (.aload_n 0, 1) := by decide +kernel
theorem dX12_nodeLine_53 : decode cX12_nodeLine 53 = .ok (.getfield 17, 3) := by decide +kernel
theorem dX12_nodeLine_56 : decode cX12_nodeLine 56 = .ok (.iconst 3, 1) := by decide +kernel
theorem dX12_nodeLine_57 : decode cX12_nodeLine 57 = .ok (.invokevirtual 138, 3) := by decide +kernel
theorem dX12_nodeLine_60 : decode cX12_nodeLine 60 = .ok (.iconst 5, 1) := by decide +kernel
theorem dX12_nodeLine_61 : decode cX12_nodeLine 61 = .ok (.if_icmp .ne 7, 3) := by decide +kernel
theorem dX12_nodeLine_64 : decode cX12_nodeLine 64 = .ok (.iconst 1, 1) := by decide +kernel
theorem dX12_nodeLine_65 : decode cX12_nodeLine 65 = .ok (.goto 4, 3) := by decide +kernel
theorem dX12_nodeLine_68 : decode cX12_nodeLine 68 = .ok (.iconst 0, 1) := by decide +kernel
theorem dX12_nodeLine_69 : decode cX12_nodeLine 69 = .ok (.istore_n 2, 1) := by decide +kernel
theorem dX12_nodeLine_70 : decode cX12_nodeLine 70 = .ok (.iload_n 2, 1) := by decide +kernel
theorem dX12_nodeLine_71 : decode cX12_nodeLine 71 = .ok (.ifCond .eq 9, 3) := by decide +kernel
theorem dX12_nodeLine_74 : decode cX12_nodeLine 74 = .ok (.aload_n 0, 1) := by decide +kernel
theorem dX12_nodeLine_75 : decode cX12_nodeLine 75 = .ok (.iconst 4, 1) := by decide +kernel
theorem dX12_nodeLine_76 : decode cX12_nodeLine 76 = .ok (.invokevirtual 142, 3) := by decide +kernel
theorem dX12_nodeLine_79 : decode cX12_nodeLine 79 = .ok (.ireturn, 1) := by decide +kernel
theorem dX12_nodeLine_80 : decode cX12_nodeLine 80 = .ok (.aload_n 0, 1) := by decide +kernel
theorem dX12_nodeLine_81 : decode cX12_nodeLine 81 = .ok (.invokevirtual 145, 3) := by decide +kernel
theorem dX12_nodeLine_84 : decode cX12_nodeLine 84 = .ok (.aload_n 0, 1) := by decide +kernel
theorem dX12_nodeLine_85 : decode cX12_nodeLine 85 = .ok (.invokevirtual 148, 3) := by decide +kernel
theorem dX12_nodeLine_88 : decode cX12_nodeLine 88 = .ok (.ifCond .ne 9, 3) := by decide +kernel
theorem dX12_nodeLine_91 : decode cX12_nodeLine 91 = .ok (.aload_n 0, 1) := by decide +kernel
theorem dX12_nodeLine_92 : decode cX12_nodeLine 92 = .ok (.iconst 1, 1) := by decide +kernel
theorem dX12_nodeLine_93 : decode cX12_nodeLine 93 = .ok (.invokevirtual 142, 3) := by decide +kernel
theorem dX12_nodeLine_96 : decode cX12_nodeLine 96 = .ok (.ireturn, 1) := by decide +kernel
theorem dX12_nodeLine_97 : decode cX12_nodeLine 97 = .ok (.aload_n 0, 1) := by decide +kernel
theorem dX12_nodeLine_98 : decode cX12_nodeLine 98 = .ok (.invokevirtual 152, 3) := by decide +kernel
theorem dX12_nodeLine_101 : decode cX12_nodeLine 101 = .ok (.ifCond .lt 9, 3) := by decide +kernel
theorem dX12_nodeLine_104 : decode cX12_nodeLine 104 = .ok (.aload_n 0, 1) := by decide +kernel
theorem dX12_nodeLine_105 : decode cX12_nodeLine 105 = .ok (.iconst 3, 1) := by decide +kernel
theorem dX12_nodeLine_106 : decode cX12_nodeLine 106 = .ok (.invokevirtual 142, 3) := by decide +kernel
theorem dX12_nodeLine_109 : decode cX12_nodeLine 109 = .ok (.ireturn, 1) := by decide +kernel
theorem dX12_nodeLine_110 : decode cX12_nodeLine 110 = .ok (.aload_n 0, 1) := by decide +kernel
theorem dX12_nodeLine_111 : decode cX12_nodeLine 111 = .ok (.getfield 17, 3) := by decide +kernel
theorem dX12_nodeLine_114 : decode cX12_nodeLine 114 = .ok (.iconst 0, 1) := by decide +kernel
theorem dX12_nodeLine_115 : decode cX12_nodeLine 115 = .ok (.iaload, 1) := by decide +kernel
theorem dX12_nodeLine_116 : decode cX12_nodeLine 116 = .ok (.istore_n 3, 1) := by decide +kernel
theorem dX12_nodeLine_117 : decode cX12_nodeLine 117 = .ok (.iconst 0, 1) := by decide +kernel
theorem dX12_nodeLine_118 : decode cX12_nodeLine 118 = .ok (.istore 4, 2) := by decide +kernel
theorem dX12_nodeLine_120 : decode cX12_nodeLine 120 = .ok (.iload 4, 2) := by decide +kernel
theorem dX12_nodeLine_122 : decode cX12_nodeLine 122 = .ok (.bipush 6, 2) := by decide +kernel
theorem dX12_nodeLine_124 : decode cX12_nodeLine 124 = .ok (.if_icmp .ge 44, 3) := by decide +kernel
theorem dX12_nodeLine_127 : decode cX12_nodeLine 127 = .ok (.aload_n 0, 1) := by decide +kernel
theorem dX12_nodeLine_128 : decode cX12_nodeLine 128 = .ok (.getfield 17, 3) := by decide +kernel
theorem dX12_nodeLine_131 : decode cX12_nodeLine 131 = .ok (.bipush 121, 2) := by decide +kernel
theorem dX12_nodeLine_133 : decode cX12_nodeLine 133 = .ok (.bipush 6, 2) := by decide +kernel
theorem dX12_nodeLine_135 : decode cX12_nodeLine 135 = .ok (.iload_n 3, 1) := by decide +kernel
theorem dX12_nodeLine_136 : decode cX12_nodeLine 136 = .ok (.imul, 1) := by decide +kernel
theorem dX12_nodeLine_137 : decode cX12_nodeLine 137 = .ok (.iadd, 1) := by decide +kernel
theorem dX12_nodeLine_138 : decode cX12_nodeLine 138 = .ok (.iload 4, 2) := by decide +kernel
theorem dX12_nodeLine_140 : decode cX12_nodeLine 140 = .ok (.iadd, 1) := by decide +kernel
theorem dX12_nodeLine_141 : decode cX12_nodeLine 141 = .ok (.iload 4, 2) := by decide +kernel
theorem dX12_nodeLine_143 : decode cX12_nodeLine 143 = .ok (.aload_n 0, 1) := by decide +kernel
theorem dX12_nodeLine_144 : decode cX12_nodeLine 144 = .ok (.getfield 129, 3) := by decide +kernel
theorem dX12_nodeLine_147 : decode cX12_nodeLine 147 = .ok (.if_icmp .ge 13, 3) := by decide +kernel
theorem dX12_nodeLine_150 : decode cX12_nodeLine 150 = .ok (.aload_n 0, 1) := by decide +kernel
theorem dX12_nodeLine_151 : decode cX12_nodeLine 151 = .ok (.getfield 37, 3) := by decide +kernel
theorem dX12_nodeLine_154 : decode cX12_nodeLine 154 = .ok (.iload 4, 2) := by decide +kernel
theorem dX12_nodeLine_156 : decode cX12_nodeLine 156 = .ok (.baload, 1) := by decide +kernel
theorem dX12_nodeLine_157 : decode cX12_nodeLine 157 = .ok (.goto 4, 3) := by decide +kernel
theorem dX12_nodeLine_160 : decode cX12_nodeLine 160 = .ok (.iconst 0, 1) := by decide +kernel
theorem dX12_nodeLine_161 : decode cX12_nodeLine 161 = .ok (.iastore, 1) := by decide +kernel
theorem dX12_nodeLine_162 : decode cX12_nodeLine 162 = .ok (.iinc 4 1, 3) := by decide +kernel
theorem dX12_nodeLine_165 : decode cX12_nodeLine 165 = .ok (.goto (-45), 3) := by decide +kernel
theorem dX12_nodeLine_168 : decode cX12_nodeLine 168 = .ok (.aload_n 0, 1) := by decide +kernel
theorem dX12_nodeLine_169 : decode cX12_nodeLine 169 = .ok (.getfield 17, 3) := by decide +kernel
theorem dX12_nodeLine_172 : decode cX12_nodeLine 172 = .ok (.iconst 1, 1) := by decide +kernel
theorem dX12_nodeLine_173 : decode cX12_nodeLine 173 = .ok (.iload_n 3, 1) := by decide +kernel
theorem dX12_nodeLine_174 : decode cX12_nodeLine 174 = .ok (.iadd, 1) := by decide +kernel
theorem dX12_nodeLine_175 : decode cX12_nodeLine 175 = .ok (.iload_n 1, 1) := by decide +kernel
theorem dX12_nodeLine_176 : decode cX12_nodeLine 176 = .ok (.iastore, 1) := by decide +kernel
theorem dX12_nodeLine_177 : decode cX12_nodeLine 177 = .ok (.aload_n 0, 1) := by decide +kernel
theorem dX12_nodeLine_178 : decode cX12_nodeLine 178 = .ok (.getfield 17, 3) := by decide +kernel
theorem dX12_nodeLine_181 : decode cX12_nodeLine 181 = .ok (.bipush 109, 2) := by decide +kernel
theorem dX12_nodeLine_183 : decode cX12_nodeLine 183 = .ok (.iload_n 3, 1) := by decide +kernel
theorem dX12_nodeLine_184 : decode cX12_nodeLine 184 = .ok (.iadd, 1) := by decide +kernel
theorem dX12_nodeLine_185 : decode cX12_nodeLine 185 = .ok (.iconst (-1), 1) := by decide +kernel
theorem dX12_nodeLine_186 : decode cX12_nodeLine 186 = .ok (.iastore, 1) := by decide +kernel
theorem dX12_nodeLine_187 : decode cX12_nodeLine 187 = .ok (.aload_n 0, 1) := by decide +kernel
theorem dX12_nodeLine_188 : decode cX12_nodeLine 188 = .ok (.invokevirtual 145, 3) := by decide +kernel
theorem dX12_nodeLine_191 : decode cX12_nodeLine 191 = .ok (.iload_n 1, 1) := by decide +kernel
theorem dX12_nodeLine_192 : decode cX12_nodeLine 192 = .ok (.ifCond .ne 49, 3) := by decide +kernel
theorem dX12_nodeLine_195 : decode cX12_nodeLine 195 = .ok (.aload_n 0, 1) := by decide +kernel
theorem dX12_nodeLine_196 : decode cX12_nodeLine 196 = .ok (.getfield 116, 3) := by decide +kernel
theorem dX12_nodeLine_199 : decode cX12_nodeLine 199 = .ok (.iconst 2, 1) := by decide +kernel
theorem dX12_nodeLine_200 : decode cX12_nodeLine 200 = .ok (.if_icmp .eq 9, 3) := by decide +kernel
theorem dX12_nodeLine_203 : decode cX12_nodeLine 203 = .ok (.aload_n 0, 1) := by decide +kernel
theorem dX12_nodeLine_204 : decode cX12_nodeLine 204 = .ok (.iconst 1, 1) := by decide +kernel
theorem dX12_nodeLine_205 : decode cX12_nodeLine 205 = .ok (.invokevirtual 142, 3) := by decide +kernel
theorem dX12_nodeLine_208 : decode cX12_nodeLine 208 = .ok (.ireturn, 1) := by decide +kernel
theorem dX12_nodeLine_209 : decode cX12_nodeLine 209 = .ok (.aload_n 0, 1) := by decide +kernel
theorem dX12_nodeLine_210 : decode cX12_nodeLine 210 = .ok (.getfield 126, 3) := by decide +kernel
theorem dX12_nodeLine_213 : decode cX12_nodeLine 213 = .ok (.bipush 9, 2) := by decide +kernel
theorem dX12_nodeLine_215 : decode cX12_nodeLine 215 = .ok (.if_icmp .le 9, 3) := by decide +kernel
theorem dX12_nodeLine_218 : decode cX12_nodeLine 218 = .ok (.aload_n 0, 1) := by decide +kernel
theorem dX12_nodeLine_219 : decode cX12_nodeLine 219 = .ok (.iconst 2, 1) := by decide +kernel
theorem dX12_nodeLine_220 : decode cX12_nodeLine 220 = .ok (.invokevirtual 142, 3) := by decide +kernel
theorem dX12_nodeLine_223 : decode cX12_nodeLine 223 = .ok (.ireturn, 1) := by decide +kernel
theorem dX12_nodeLine_224 : decode cX12_nodeLine 224 = .ok (.aload_n 0, 1) := by decide +kernel
theorem dX12_nodeLine_225 : decode cX12_nodeLine 225 = .ok (.getfield 17, 3) := by decide +kernel
theorem dX12_nodeLine_228 : decode cX12_nodeLine 228 = .ok (.bipush 13, 2) := by decide +kernel
theorem dX12_nodeLine_230 : decode cX12_nodeLine 230 = .ok (.iload_n 3, 1) := by decide +kernel
theorem dX12_nodeLine_231 : decode cX12_nodeLine 231 = .ok (.iadd, 1) := by decide +kernel
theorem dX12_nodeLine_232 : decode cX12_nodeLine 232 = .ok (.aload_n 0, 1) := by decide +kernel
theorem dX12_nodeLine_233 : decode cX12_nodeLine 233 = .ok (.getfield 126, 3) := by decide +kernel
theorem dX12_nodeLine_236 : decode cX12_nodeLine 236 = .ok (.iastore, 1) := by decide +kernel
theorem dX12_nodeLine_237 : decode cX12_nodeLine 237 = .ok (.aload_n 0, 1) := by decide +kernel
theorem dX12_nodeLine_238 : decode cX12_nodeLine 238 = .ok (.invokevirtual 145, 3) := by decide +kernel
theorem dX12_nodeLine_241 : decode cX12_nodeLine 241 = .ok (.aload_n 0, 1) := by decide +kernel
theorem dX12_nodeLine_242 : decode cX12_nodeLine 242 = .ok (.getfield 17, 3) := by decide +kernel
theorem dX12_nodeLine_245 : decode cX12_nodeLine 245 = .ok (.iconst 0, 1) := by decide +kernel
theorem dX12_nodeLine_246 : decode cX12_nodeLine 246 = .ok (.dup2, 1) := by decide +kernel
theorem dX12_nodeLine_247 : decode cX12_nodeLine 247 = .ok (.iaload, 1) := by decide +kernel
theorem dX12_nodeLine_248 : decode cX12_nodeLine 248 = .ok (.iconst 1, 1) := by decide +kernel
theorem dX12_nodeLine_249 : decode cX12_nodeLine 249 = .ok (.iadd, 1) := by decide +kernel
theorem dX12_nodeLine_250 : decode cX12_nodeLine 250 = .ok (.iastore, 1) := by decide +kernel
theorem dX12_nodeLine_251 : decode cX12_nodeLine 251 = .ok (.iconst 1, 1) := by decide +kernel
theorem dX12_nodeLine_252 : decode cX12_nodeLine 252 = .ok (.ireturn, 1) := by decide +kernel
theorem tk_8 : (8 : Int32).toInt = 8 := by decide
theorem tk_9 : (9 : Int32).toInt = 9 := by decide
theorem tk_13 : (13 : Int32).toInt = 13 := by decide
theorem tk_109 : (109 : Int32).toInt = 109 := by decide
theorem tk_400 : (400 : Int32).toInt = 400 := by decide
theorem nlr_next {F F' f : Nat → Int32} {B i i' idx : Nat} {v : Int32} {pd : Nat → Int} (h : (∀ j : Nat, j < B ∨ B + i ≤ j → F j = f j) ∧ ∀ j : Nat, j < i → (F (B + j)).toInt = pd j) (e : F' = upd F idx v) (hi : idx = B + i) (hv : v.toInt = pd i) (hi' : i' = i + 1) : (∀ j : Nat, j < B ∨ B + i' ≤ j → F' j = f j) ∧ ∀ j : Nat, j < i' → (F' (B + j)).toInt = pd j := by
  subst hi; subst hi'
  refine ⟨fun j hj => ?_, fun j hj => ?_⟩
  · rw [e, upd_ne _ _ (by omega)]; exact h.1 j (by omega)
  · rw [e]
    by_cases z : j = i
    · rw [z, upd_at]; exact hv
    · rw [upd_ne _ _ (by omega)]; exact h.2 j (by omega)
