/-- the good words of the tables: every contract's words -/
def wsL_law : List Cond := lw_tbl.filter goodWord
theorem wsL_law_in : ∀ w ∈ wsL_law, w ∈ lw_tbl := fun w h => (List.mem_filter.mp h).1
/-- the array classes: ints, longs, bytes, booleans, nets, rows of longs -/
abbrev TY (g : Nat → ClassId) : List (ClassId × FieldType) := [(g 0, .int), (g 1, .long), (g 2, .byte), (g 3, .boolean), (g 4, .object RX2), (g 5, .array .long)]
theorem tz_blS {D : va_G} {av : List Value} {w : va_W} {tys : List (ClassId × FieldType)} : FrameBlind (va_Pc av (fun U => va_P D vwCl w U.heap ∧ va_K D vwCl tys U)) := fun a U g mk q => by
  obtain ⟨q0, qP, qK⟩ := q
  exact ⟨q0, qP, va_K.moved (u := U) (U := U.calling g mk a) (Vm.Alike.refl U.vm) qK⟩
theorem tz_preS {D : va_G} {s : State} {H : Heap} {w : va_W} {tys : List (ClassId × FieldType)} {av : List Value} (hP : va_P D vwCl w H) (hK : va_K D vwCl tys s) : ∀ U : State, U.heap = H → s.WarmedH U.vm → va_Pc av (fun U => va_P D vwCl w U.heap ∧ va_K D vwCl tys U) av.toArray U := fun U hU hW => ⟨rfl, by rw [hU]; exact hP, va_K.moved hW.alike hK⟩
theorem tz_blQ {D : va_G} {av : List Value} {w : va_W} {tys : List (ClassId × FieldType)} {sz : Nat} : FrameBlind (va_Pc av (fun U => U.heap.size = sz ∧ va_P D vwCl w U.heap ∧ va_K D vwCl tys U ∧ va_D (fun _ => True) w)) := fun a U g mk q => by
  obtain ⟨q0, q1, qP, qK, qD⟩ := q
  exact ⟨q0, q1, qP, va_K.moved (u := U) (U := U.calling g mk a) (Vm.Alike.refl U.vm) qK, qD⟩
theorem tz_preQ {D : va_G} {s : State} {H : Heap} {w : va_W} {tys : List (ClassId × FieldType)} {av : List Value} {A : Nat → Prop} (hP : va_P D vwCl w H) (hK : va_K D vwCl tys s) (hD : va_D A w) : ∀ U : State, U.heap = H → s.WarmedH U.vm → va_Pc av (fun U => U.heap.size = H.size ∧ va_P D vwCl w U.heap ∧ va_K D vwCl tys U ∧ va_D (fun _ => True) w) av.toArray U := fun U hU hW => ⟨rfl, by rw [hU], by rw [hU]; exact hP, va_K.moved hW.alike hK, hD.weaken (fun _ _ _ _ => trivial)⟩
theorem tz_blQZ {D : va_G} {av : List Value} {w : va_W} {tys : List (ClassId × FieldType)} {sz : Nat} {Z : State → Prop} (hZ : ∀ u U : State, u.vm = U.vm → Z u → Z U) : FrameBlind (va_Pc av (fun U => U.heap.size = sz ∧ va_P D vwCl w U.heap ∧ va_K D vwCl tys U ∧ va_D (fun _ => True) w ∧ Z U)) := fun a U g mk q => by
  obtain ⟨q0, q1, qP, qK, qD, qZ⟩ := q
  exact ⟨q0, q1, qP, va_K.moved (u := U) (U := U.calling g mk a) (Vm.Alike.refl U.vm) qK, qD, hZ U (U.calling g mk a) rfl qZ⟩
theorem tz_preQZ {D : va_G} {s : State} {H : Heap} {w : va_W} {tys : List (ClassId × FieldType)} {av : List Value} {A : Nat → Prop} {Z : State → Prop} (hP : va_P D vwCl w H) (hK : va_K D vwCl tys s) (hD : va_D A w) (hZ : ∀ U : State, s.WarmedH U.vm → Z U) : ∀ U : State, U.heap = H → s.WarmedH U.vm → va_Pc av (fun U => U.heap.size = H.size ∧ va_P D vwCl w U.heap ∧ va_K D vwCl tys U ∧ va_D (fun _ => True) w ∧ Z U) av.toArray U := fun U hU hW => ⟨rfl, by rw [hU], by rw [hU]; exact hP, va_K.moved hW.alike hK, hD.weaken (fun _ _ _ _ => trivial), hZ U hW⟩
theorem tz_nilP {D : va_G} {H : Heap} : va_P D vwCl [] H := fun k q h => by simp at h
theorem tz_nilD {A : Nat → Prop} : va_D A [] := ⟨fun i j p q h => by simp at h, fun k q h => by simp at h⟩
theorem tz_in {i : Int32} {n : Nat} (h : (decide (i < 0) || decide (n ≤ i.toNatClampNeg)) = false) : vp_in i n := by
  intro q
  rcases q with q | q
  · simp [q] at h
  · simp [q] at h
section TZ
variable {p : Program} {l : Launch} {e : Env} {R : Room} {s : State} {m : MethodId} {args : Array Value} {below : List Frame} {meth : Method} {c : Code} {H : Heap} {locs : List Loc} {cells slots : Nat} {Q : State → Prop} {pc : Nat} {ls : Array Slot} {rest : List Value}
theorem tz_i {x y : Int32} (h : x = y) (k : W p l e R s m args below meth c H locs cells slots Q (F0 m pc ls (.int y :: rest))) : W p l e R s m args below meth c H locs cells slots Q (F0 m pc ls (.int x :: rest)) := by
  subst h
  exact k
theorem tz_l {x y : Int64} (h : x = y) (k : W p l e R s m args below meth c H locs cells slots Q (F0 m pc ls (.long y :: rest))) : W p l e R s m args below meth c H locs cells slots Q (F0 m pc ls (.long x :: rest)) := by
  subst h
  exact k
theorem tz_v {x y : Value} (h : x = y) (k : W p l e R s m args below meth c H locs cells slots Q (F0 m pc ls (y :: rest))) : W p l e R s m args below meth c H locs cells slots Q (F0 m pc ls (x :: rest)) := by
  subst h
  exact k
theorem va_ald2 {cc : ByteArray} {D : va_G} {cl : List vw_C} {ws : va_W} {tys : List (ClassId × FieldType)} {a : Nat} (hexec : p.tables.exec = Jvm.exec) (hb : c.code = cc) (hK : va_K D cl tys s) (hP : va_P D cl ws H) (q0 t0 : Nat) {cA : ClassId} {ty : FieldType} {n : Nat} {f : Nat → Option Nat} (ha : ws[q0]? = some (a, .inl (cA, n, .inr (.inr (.inr (.inr f)))))) (ht : tys[t0]? = some (cA, .array ty)) {i : Int32} (hin : vp_in i n) (hdg : decode cc pc = .ok (.aaload, 1))
    (kk : W p l e R s m args below meth c H locs cells slots Q (F0 m (pc + 1) ls (va_rf (f i.toNatClampNeg) :: rest))) : W p l e R s m args below meth c H locs cells slots Q (F0 m pc ls (.int i :: .ref a :: rest)) := by
  have hlt : i.toNatClampNeg < n := Nat.not_le.mp fun q => hin (Or.inr q)
  exact W.aald (v := va_rf (f i.toNatClampNeg)) (ty := .array ty) hexec hb (hP q0 _ ha) ((hK.2 t0 _ ht).1 n (fun j => va_rf (f j))) rfl (fun q => by cases q) (by show ¬ (i < 0 ∨ (arrV _ _ _).slots.size ≤ _); rw [arrV_size]; exact hin) (by show (arrV _ _ _).slots[_]? = _; rw [arrV_read _ _ hlt]) rfl rfl hdg kk
end TZ
theorem tz_row {r : Nat → Nat} {n k : Nat} {i : Int32} (hi : i.toNatClampNeg = k) (hk : k < n) : va_rf ((fun i => if i < n then some (r i) else none) i.toNatClampNeg) = .ref (r k) := by
  subst hi
  show va_rf (if _ < n then _ else _) = _
  rw [if_pos hk]
  rfl
theorem tz_big {x : Int32} {n : Nat} (h0 : ¬ x < 0) (h : ¬ vp_in x n) (hn : n < 2 ^ 31) : nI n ≤ x := by
  rw [vp_in_iff] at h
  rw [Int32.lt_iff_toInt_lt] at h0
  rw [Int32.le_iff_toInt_le, nI_toInt hn]
  have e : (0 : Int32).toInt = 0 := by decide
  omega
theorem tz_gt1 {x : Int32} (h0 : ¬ x < 0) (h : ¬ vp_in x 2) : 1 < x := Int32.lt_of_lt_of_le (by decide) (tz_big h0 h (by decide))
theorem tz_nlt2 {x : Int32} (h0 : ¬ x < 0) (h : ¬ vp_in x 2) : ¬ x < 2 := Int32.not_lt.mpr (tz_big h0 h (by decide))
theorem tz_gt0 {x : Int32} (h0 : ¬ x < 0) (h : ¬ x = 0) : 0 < x := Int32.lt_of_le_of_ne (Int32.not_lt.mp h0) (fun e => h e.symm)
theorem tz_gt2 {x : Int32} (h0 : ¬ x < 1) (h : ¬ x = 1 ∧ ¬ x = 2) : 2 < x := by
  rw [Int32.lt_iff_toInt_lt] at h0 ⊢
  have e1 : (1 : Int32).toInt = 1 := by decide
  have e2 : (2 : Int32).toInt = 2 := by decide
  have n1 : ¬ x.toInt = 1 := fun q => h.1 (Int32.toInt_inj.mp (q.trans e1.symm))
  have n2 : ¬ x.toInt = 2 := fun q => h.2 (Int32.toInt_inj.mp (q.trans e2.symm))
  omega
theorem tz_c2 (x : Int32) : x = 0 ∨ x = 1 ∨ ¬ vp_in x 2 := by
  by_cases h : vp_in x 2
  · obtain ⟨j, hj, rfl⟩ := vp_in_of h (by decide)
    rcases (show j = 0 ∨ j = 1 by omega) with rfl | rfl
    · exact Or.inl rfl
    · exact Or.inr (Or.inl rfl)
  · exact Or.inr (Or.inr h)
theorem tz_c3 (x : Int32) : x = 0 ∨ x = 1 ∨ x = 2 ∨ ¬ vp_in x 3 := by
  by_cases h : vp_in x 3
  · obtain ⟨j, hj, rfl⟩ := vp_in_of h (by decide)
    rcases (show j = 0 ∨ j = 1 ∨ j = 2 by omega) with rfl | rfl | rfl
    · exact Or.inl rfl
    · exact Or.inr (Or.inl rfl)
    · exact Or.inr (Or.inr (Or.inl rfl))
  · exact Or.inr (Or.inr (Or.inr h))
theorem tz_c8 (x : Int32) : x = 0 ∨ x = 1 ∨ x = 2 ∨ x = 3 ∨ x = 4 ∨ x = 5 ∨ x = 6 ∨ x = 7 ∨ ¬ vp_in x 8 := by
  by_cases h : vp_in x 8
  · obtain ⟨j, hj, rfl⟩ := vp_in_of h (by decide)
    rcases (show j = 0 ∨ j = 1 ∨ j = 2 ∨ j = 3 ∨ j = 4 ∨ j = 5 ∨ j = 6 ∨ j = 7 by omega) with rfl | rfl | rfl | rfl | rfl | rfl | rfl | rfl
    · exact Or.inl rfl
    · exact Or.inr (Or.inl rfl)
    · exact Or.inr (Or.inr (Or.inl rfl))
    · exact Or.inr (Or.inr (Or.inr (Or.inl rfl)))
    · exact Or.inr (Or.inr (Or.inr (Or.inr (Or.inl rfl))))
    · exact Or.inr (Or.inr (Or.inr (Or.inr (Or.inr (Or.inl rfl)))))
    · exact Or.inr (Or.inr (Or.inr (Or.inr (Or.inr (Or.inr (Or.inl rfl))))))
    · exact Or.inr (Or.inr (Or.inr (Or.inr (Or.inr (Or.inr (Or.inr (Or.inl rfl)))))))
  · exact Or.inr (Or.inr (Or.inr (Or.inr (Or.inr (Or.inr (Or.inr (Or.inr h)))))))
theorem tz_cp (x : Int32) : x = 1 ∨ x = 2 ∨ (¬ x = 1 ∧ ¬ x = 2) := by
  by_cases h : x = 1
  · exact Or.inl h
  · by_cases h2 : x = 2
    · exact Or.inr (Or.inl h2)
    · exact Or.inr (Or.inr ⟨h, h2⟩)
theorem tz_out {x : Int32} {n : Nat} (h : ¬ vp_in x n) : x.toInt < 0 ∨ ((n : Int) - 1) < x.toInt := by
  rw [vp_in_iff] at h
  omega
theorem tz_ne {x y : Int32} {n : Nat} (h : ¬ vp_in x n) (hy : vp_in y n) : ¬ x = y := fun e => h (by rw [e]; exact hy)
theorem tz_in_mono {x : Int32} {a b : Nat} (h : vp_in x a) (hab : a ≤ b) : vp_in x b := by
  rw [vp_in_iff] at h ⊢
  omega
theorem tz_eq {P : Prop} {a b r1 r2 : Int32} (h1 : (P → r1 = a) ∧ (¬ P → r1 = b)) (h2 : (P → r2 = a) ∧ (¬ P → r2 = b)) : r1 = r2 := by
  by_cases h : P
  · rw [h1.1 h, h2.1 h]
  · rw [h1.2 h, h2.2 h]
theorem tz_good : ∀ w ∈ wsL_law, goodWord w = true := fun w h => (List.mem_filter.mp h).2
theorem tz_gL : GoodIn wsL_law wsL_law := fun w h => ⟨h, good_of_word (tz_good w h)⟩
theorem tz_g1 {ws : List Cond} (h : ∀ w ∈ ws, w ∈ wsL_law) : GoodIn wsL_law ws := fun w hw => tz_gL w (h w hw)
theorem tz_gC {c : Cond} (h : c ∈ wsL_law) : GoodIn wsL_law (c :: wsL_law) := fun w hw => (List.mem_cons.mp hw).elim (fun e => by rw [e]; exact tz_gL _ h) (fun e => tz_gL _ e)
theorem tz_gV {own C : String} {i : Nat} {y : MethodName} {c : Cond} (h1 : Cond.methodLink own i y ∈ wsL_law) (h2 : Cond.instanceMethod y ∈ wsL_law) (h3 : Cond.selects C y y ∈ wsL_law) (h4 : Cond.initialized C ∈ wsL_law) (h5 : c ∈ wsL_law) : GoodIn wsL_law (wsV own i C y (c :: wsL_law)) := by
  refine goodIn_app (tz_g1 ?_) (tz_gC h5)
  intro w hw
  simp only [List.mem_cons, List.not_mem_nil, or_false] at hw
  rcases hw with e | e | e | e <;> (rw [e]; assumption)
theorem tz_gS {own : String} {i : Nat} {y : MethodName} {c : Cond} (h1 : Cond.methodLink own i y ∈ wsL_law) (h2 : Cond.static y ∈ wsL_law) (h3 : Cond.initialized y.cls ∈ wsL_law) (h5 : c ∈ wsL_law) : GoodIn wsL_law (va_wsS own i y (c :: wsL_law)) := by
  refine goodIn_app (tz_g1 ?_) (tz_gC h5)
  intro w hw
  simp only [List.mem_cons, List.not_mem_nil, or_false] at hw
  rcases hw with e | e | e <;> (rw [e]; assumption)
theorem tseg_1 {w : Cond} (hg : goodWord w = true) (h : w ∈ tables_1_1) : w ∈ wsL_law := List.mem_filter.mpr ⟨List.mem_append_right _ (List.mem_append_left _ h), hg⟩
theorem tseg_2 {w : Cond} (hg : goodWord w = true) (h : w ∈ tables_1_2) : w ∈ wsL_law := List.mem_filter.mpr ⟨List.mem_append_right _ (List.mem_append_right _ (List.mem_append_left _ h)), hg⟩
theorem tseg_3 {w : Cond} (hg : goodWord w = true) (h : w ∈ tables_1_3) : w ∈ wsL_law := List.mem_filter.mpr ⟨List.mem_append_right _ (List.mem_append_right _ (List.mem_append_right _ (List.mem_append_left _ h))), hg⟩
theorem tseg_4 {w : Cond} (hg : goodWord w = true) (h : w ∈ tables_1_4) : w ∈ wsL_law := List.mem_filter.mpr ⟨List.mem_append_right _ (List.mem_append_right _ (List.mem_append_right _ (List.mem_append_right _ (List.mem_append_left _ h)))), hg⟩
theorem tseg_5 {w : Cond} (hg : goodWord w = true) (h : w ∈ tables_1_5) : w ∈ wsL_law := List.mem_filter.mpr ⟨List.mem_append_right _ (List.mem_append_right _ (List.mem_append_right _ (List.mem_append_right _ (List.mem_append_right _ (List.mem_append_left _ h))))), hg⟩
theorem tseg_6 {w : Cond} (hg : goodWord w = true) (h : w ∈ tables_1_6) : w ∈ wsL_law := List.mem_filter.mpr ⟨List.mem_append_right _ (List.mem_append_right _ (List.mem_append_right _ (List.mem_append_right _ (List.mem_append_right _ (List.mem_append_right _ (List.mem_append_left _ h)))))), hg⟩
theorem tseg_7 {w : Cond} (hg : goodWord w = true) (h : w ∈ tables_1_7) : w ∈ wsL_law := List.mem_filter.mpr ⟨List.mem_append_right _ (List.mem_append_right _ (List.mem_append_right _ (List.mem_append_right _ (List.mem_append_right _ (List.mem_append_right _ (List.mem_append_right _ (h))))))), hg⟩
theorem fX0_0 : u_lay RX0 TX0 0 ∈ wsL_law := tseg_2 (by decide +kernel) (List.mem_of_getElem? (i := 54) (by decide +kernel))
theorem fX0_1 : u_lay RX0 TX0 1 ∈ wsL_law := tseg_2 (by decide +kernel) (List.mem_of_getElem? (i := 56) (by decide +kernel))
theorem fX0_2 : u_lay RX0 TX0 2 ∈ wsL_law := tseg_2 (by decide +kernel) (List.mem_of_getElem? (i := 58) (by decide +kernel))
theorem inlX0 : ∀ w ∈ wsX00, w ∈ wsL_law := by
  intro w h
  obtain ⟨k, hk, rfl⟩ := List.mem_map.mp h
  have hk := List.mem_range.mp hk
  rcases (show k = 0 ∨ k = 1 ∨ k = 2 by omega) with rfl | rfl | rfl
  · exact fX0_0
  · exact fX0_1
  · exact fX0_2
theorem fX1_0 : u_lay RX1 TX1 0 ∈ wsL_law := tseg_2 (by decide +kernel) (List.mem_of_getElem? (i := 43) (by decide +kernel))
theorem fX1_1 : u_lay RX1 TX1 1 ∈ wsL_law := tseg_2 (by decide +kernel) (List.mem_of_getElem? (i := 45) (by decide +kernel))
theorem fX1_2 : u_lay RX1 TX1 2 ∈ wsL_law := tseg_2 (by decide +kernel) (List.mem_of_getElem? (i := 47) (by decide +kernel))
theorem inlX1 : ∀ w ∈ wsX10, w ∈ wsL_law := by
  intro w h
  obtain ⟨k, hk, rfl⟩ := List.mem_map.mp h
  have hk := List.mem_range.mp hk
  rcases (show k = 0 ∨ k = 1 ∨ k = 2 by omega) with rfl | rfl | rfl
  · exact fX1_0
  · exact fX1_1
  · exact fX1_2
theorem fX2_0 : u_lay RX2 TX2 0 ∈ wsL_law := tseg_1 (by decide +kernel) (List.mem_of_getElem? (i := 92) (by decide +kernel))
theorem fX2_1 : u_lay RX2 TX2 1 ∈ wsL_law := tseg_1 (by decide +kernel) (List.mem_of_getElem? (i := 94) (by decide +kernel))
theorem fX2_2 : u_lay RX2 TX2 2 ∈ wsL_law := tseg_1 (by decide +kernel) (List.mem_of_getElem? (i := 96) (by decide +kernel))
theorem fX2_3 : u_lay RX2 TX2 3 ∈ wsL_law := tseg_1 (by decide +kernel) (List.mem_of_getElem? (i := 98) (by decide +kernel))
theorem fX2_4 : u_lay RX2 TX2 4 ∈ wsL_law := tseg_1 (by decide +kernel) (List.mem_of_getElem? (i := 100) (by decide +kernel))
theorem fX2_5 : u_lay RX2 TX2 5 ∈ wsL_law := tseg_1 (by decide +kernel) (List.mem_of_getElem? (i := 102) (by decide +kernel))
theorem fX2_6 : u_lay RX2 TX2 6 ∈ wsL_law := tseg_1 (by decide +kernel) (List.mem_of_getElem? (i := 104) (by decide +kernel))
theorem fX2_7 : u_lay RX2 TX2 7 ∈ wsL_law := tseg_1 (by decide +kernel) (List.mem_of_getElem? (i := 106) (by decide +kernel))
theorem inlX2 : ∀ w ∈ wsX20, w ∈ wsL_law := by
  intro w h
  obtain ⟨k, hk, rfl⟩ := List.mem_map.mp h
  have hk := List.mem_range.mp hk
  rcases (show k = 0 ∨ k = 1 ∨ k = 2 ∨ k = 3 ∨ k = 4 ∨ k = 5 ∨ k = 6 ∨ k = 7 by omega) with rfl | rfl | rfl | rfl | rfl | rfl | rfl | rfl
  · exact fX2_0
  · exact fX2_1
  · exact fX2_2
  · exact fX2_3
  · exact fX2_4
  · exact fX2_5
  · exact fX2_6
  · exact fX2_7
theorem fX3_0 : u_lay RX3 TX3 0 ∈ wsL_law := tseg_2 (by decide +kernel) (List.mem_of_getElem? (i := 117) (by decide +kernel))
theorem fX3_1 : u_lay RX3 TX3 1 ∈ wsL_law := tseg_2 (by decide +kernel) (List.mem_of_getElem? (i := 119) (by decide +kernel))
theorem fX3_2 : u_lay RX3 TX3 2 ∈ wsL_law := tseg_2 (by decide +kernel) (List.mem_of_getElem? (i := 121) (by decide +kernel))
theorem fX3_3 : u_lay RX3 TX3 3 ∈ wsL_law := tseg_2 (by decide +kernel) (List.mem_of_getElem? (i := 123) (by decide +kernel))
theorem fX3_4 : u_lay RX3 TX3 4 ∈ wsL_law := tseg_2 (by decide +kernel) (List.mem_of_getElem? (i := 125) (by decide +kernel))
theorem fX3_5 : u_lay RX3 TX3 5 ∈ wsL_law := tseg_2 (by decide +kernel) (List.mem_of_getElem? (i := 127) (by decide +kernel))
theorem fX3_6 : u_lay RX3 TX3 6 ∈ wsL_law := tseg_2 (by decide +kernel) (List.mem_of_getElem? (i := 129) (by decide +kernel))
theorem fX3_7 : u_lay RX3 TX3 7 ∈ wsL_law := tseg_2 (by decide +kernel) (List.mem_of_getElem? (i := 131) (by decide +kernel))
theorem fX3_8 : u_lay RX3 TX3 8 ∈ wsL_law := tseg_2 (by decide +kernel) (List.mem_of_getElem? (i := 133) (by decide +kernel))
theorem fX3_9 : u_lay RX3 TX3 9 ∈ wsL_law := tseg_2 (by decide +kernel) (List.mem_of_getElem? (i := 135) (by decide +kernel))
theorem inlX3 : ∀ w ∈ wsX30, w ∈ wsL_law := by
  intro w h
  obtain ⟨k, hk, rfl⟩ := List.mem_map.mp h
  have hk := List.mem_range.mp hk
  rcases (show k = 0 ∨ k = 1 ∨ k = 2 ∨ k = 3 ∨ k = 4 ∨ k = 5 ∨ k = 6 ∨ k = 7 ∨ k = 8 ∨ k = 9 by omega) with rfl | rfl | rfl | rfl | rfl | rfl | rfl | rfl | rfl | rfl
  · exact fX3_0
  · exact fX3_1
  · exact fX3_2
  · exact fX3_3
  · exact fX3_4
  · exact fX3_5
  · exact fX3_6
  · exact fX3_7
  · exact fX3_8
  · exact fX3_9
theorem fX4_0 : u_lay RX4 TX4 0 ∈ wsL_law := tseg_1 (by decide +kernel) (List.mem_of_getElem? (i := 186) (by decide +kernel))
theorem fX4_1 : u_lay RX4 TX4 1 ∈ wsL_law := tseg_1 (by decide +kernel) (List.mem_of_getElem? (i := 188) (by decide +kernel))
theorem fX4_2 : u_lay RX4 TX4 2 ∈ wsL_law := tseg_1 (by decide +kernel) (List.mem_of_getElem? (i := 190) (by decide +kernel))
theorem fX4_3 : u_lay RX4 TX4 3 ∈ wsL_law := tseg_1 (by decide +kernel) (List.mem_of_getElem? (i := 192) (by decide +kernel))
theorem fX4_4 : u_lay RX4 TX4 4 ∈ wsL_law := tseg_1 (by decide +kernel) (List.mem_of_getElem? (i := 194) (by decide +kernel))
theorem fX4_5 : u_lay RX4 TX4 5 ∈ wsL_law := tseg_1 (by decide +kernel) (List.mem_of_getElem? (i := 196) (by decide +kernel))
theorem fX4_6 : u_lay RX4 TX4 6 ∈ wsL_law := tseg_1 (by decide +kernel) (List.mem_of_getElem? (i := 198) (by decide +kernel))
theorem fX4_7 : u_lay RX4 TX4 7 ∈ wsL_law := tseg_1 (by decide +kernel) (List.mem_of_getElem? (i := 200) (by decide +kernel))
theorem fX4_8 : u_lay RX4 TX4 8 ∈ wsL_law := tseg_1 (by decide +kernel) (List.mem_of_getElem? (i := 202) (by decide +kernel))
theorem fX4_9 : u_lay RX4 TX4 9 ∈ wsL_law := tseg_1 (by decide +kernel) (List.mem_of_getElem? (i := 204) (by decide +kernel))
theorem inlX4 : ∀ w ∈ wsX40, w ∈ wsL_law := by
  intro w h
  obtain ⟨k, hk, rfl⟩ := List.mem_map.mp h
  have hk := List.mem_range.mp hk
  rcases (show k = 0 ∨ k = 1 ∨ k = 2 ∨ k = 3 ∨ k = 4 ∨ k = 5 ∨ k = 6 ∨ k = 7 ∨ k = 8 ∨ k = 9 by omega) with rfl | rfl | rfl | rfl | rfl | rfl | rfl | rfl | rfl | rfl
  · exact fX4_0
  · exact fX4_1
  · exact fX4_2
  · exact fX4_3
  · exact fX4_4
  · exact fX4_5
  · exact fX4_6
  · exact fX4_7
  · exact fX4_8
  · exact fX4_9
theorem fX5_0 : u_lay RX5 TX5 0 ∈ wsL_law := tseg_2 (by decide +kernel) (List.mem_of_getElem? (i := 14) (by decide +kernel))
theorem inlX5 : ∀ w ∈ wsX50, w ∈ wsL_law := by
  intro w h
  obtain ⟨k, hk, rfl⟩ := List.mem_map.mp h
  have hk := List.mem_range.mp hk
  obtain rfl : k = 0 := by omega
  exact fX5_0
theorem fX6_0 : u_lay RX6 TX6 0 ∈ wsL_law := tseg_2 (by decide +kernel) (List.mem_of_getElem? (i := 66) (by decide +kernel))
theorem fX6_1 : u_lay RX6 TX6 1 ∈ wsL_law := tseg_2 (by decide +kernel) (List.mem_of_getElem? (i := 68) (by decide +kernel))
theorem fX6_2 : u_lay RX6 TX6 2 ∈ wsL_law := tseg_2 (by decide +kernel) (List.mem_of_getElem? (i := 70) (by decide +kernel))
theorem fX6_3 : u_lay RX6 TX6 3 ∈ wsL_law := tseg_2 (by decide +kernel) (List.mem_of_getElem? (i := 72) (by decide +kernel))
theorem inlX6 : ∀ w ∈ wsX60, w ∈ wsL_law := by
  intro w h
  obtain ⟨k, hk, rfl⟩ := List.mem_map.mp h
  have hk := List.mem_range.mp hk
  rcases (show k = 0 ∨ k = 1 ∨ k = 2 ∨ k = 3 by omega) with rfl | rfl | rfl | rfl
  · exact fX6_0
  · exact fX6_1
  · exact fX6_2
  · exact fX6_3
theorem fX7_0 : u_lay RX7 TX7 0 ∈ wsL_law := tseg_1 (by decide +kernel) (List.mem_of_getElem? (i := 221) (by decide +kernel))
theorem fX7_1 : u_lay RX7 TX7 1 ∈ wsL_law := tseg_1 (by decide +kernel) (List.mem_of_getElem? (i := 223) (by decide +kernel))
theorem fX7_2 : u_lay RX7 TX7 2 ∈ wsL_law := tseg_1 (by decide +kernel) (List.mem_of_getElem? (i := 225) (by decide +kernel))
theorem fX7_3 : u_lay RX7 TX7 3 ∈ wsL_law := tseg_1 (by decide +kernel) (List.mem_of_getElem? (i := 227) (by decide +kernel))
theorem fX7_4 : u_lay RX7 TX7 4 ∈ wsL_law := tseg_1 (by decide +kernel) (List.mem_of_getElem? (i := 229) (by decide +kernel))
theorem inlX7 : ∀ w ∈ wsX70, w ∈ wsL_law := by
  intro w h
  obtain ⟨k, hk, rfl⟩ := List.mem_map.mp h
  have hk := List.mem_range.mp hk
  rcases (show k = 0 ∨ k = 1 ∨ k = 2 ∨ k = 3 ∨ k = 4 by omega) with rfl | rfl | rfl | rfl | rfl
  · exact fX7_0
  · exact fX7_1
  · exact fX7_2
  · exact fX7_3
  · exact fX7_4
theorem fX8_0 : u_lay RX8 TX8 0 ∈ wsL_law := tseg_1 (by decide +kernel) (List.mem_of_getElem? (i := 42) (by decide +kernel))
theorem fX8_1 : u_lay RX8 TX8 1 ∈ wsL_law := tseg_1 (by decide +kernel) (List.mem_of_getElem? (i := 44) (by decide +kernel))
theorem inlX8 : ∀ w ∈ wsX80, w ∈ wsL_law := by
  intro w h
  obtain ⟨k, hk, rfl⟩ := List.mem_map.mp h
  have hk := List.mem_range.mp hk
  rcases (show k = 0 ∨ k = 1 by omega) with rfl | rfl
  · exact fX8_0
  · exact fX8_1
theorem fX9_0 : u_lay RX9 TX9 0 ∈ wsL_law := tseg_2 (by decide +kernel) (List.mem_of_getElem? (i := 2) (by decide +kernel))
theorem fX9_1 : u_lay RX9 TX9 1 ∈ wsL_law := tseg_2 (by decide +kernel) (List.mem_of_getElem? (i := 4) (by decide +kernel))
theorem inlX9 : ∀ w ∈ wsX90, w ∈ wsL_law := by
  intro w h
  obtain ⟨k, hk, rfl⟩ := List.mem_map.mp h
  have hk := List.mem_range.mp hk
  rcases (show k = 0 ∨ k = 1 by omega) with rfl | rfl
  · exact fX9_0
  · exact fX9_1
theorem fX10_0 : u_lay RX10 TX10 0 ∈ wsL_law := tseg_2 (by decide +kernel) (List.mem_of_getElem? (i := 96) (by decide +kernel))
theorem fX10_1 : u_lay RX10 TX10 1 ∈ wsL_law := tseg_2 (by decide +kernel) (List.mem_of_getElem? (i := 98) (by decide +kernel))
theorem inlX10 : ∀ w ∈ wsX100, w ∈ wsL_law := by
  intro w h
  obtain ⟨k, hk, rfl⟩ := List.mem_map.mp h
  have hk := List.mem_range.mp hk
  rcases (show k = 0 ∨ k = 1 by omega) with rfl | rfl
  · exact fX10_0
  · exact fX10_1
theorem fX11_0 : u_lay RX11 TX11 0 ∈ wsL_law := tseg_2 (by decide +kernel) (List.mem_of_getElem? (i := 158) (by decide +kernel))
theorem fX11_1 : u_lay RX11 TX11 1 ∈ wsL_law := tseg_2 (by decide +kernel) (List.mem_of_getElem? (i := 160) (by decide +kernel))
theorem fX11_2 : u_lay RX11 TX11 2 ∈ wsL_law := tseg_2 (by decide +kernel) (List.mem_of_getElem? (i := 162) (by decide +kernel))
theorem fX11_3 : u_lay RX11 TX11 3 ∈ wsL_law := tseg_2 (by decide +kernel) (List.mem_of_getElem? (i := 164) (by decide +kernel))
theorem fX11_4 : u_lay RX11 TX11 4 ∈ wsL_law := tseg_2 (by decide +kernel) (List.mem_of_getElem? (i := 166) (by decide +kernel))
theorem fX11_5 : u_lay RX11 TX11 5 ∈ wsL_law := tseg_2 (by decide +kernel) (List.mem_of_getElem? (i := 168) (by decide +kernel))
theorem fX11_6 : u_lay RX11 TX11 6 ∈ wsL_law := tseg_2 (by decide +kernel) (List.mem_of_getElem? (i := 170) (by decide +kernel))
theorem fX11_7 : u_lay RX11 TX11 7 ∈ wsL_law := tseg_2 (by decide +kernel) (List.mem_of_getElem? (i := 172) (by decide +kernel))
theorem fX11_8 : u_lay RX11 TX11 8 ∈ wsL_law := tseg_2 (by decide +kernel) (List.mem_of_getElem? (i := 174) (by decide +kernel))
theorem fX11_9 : u_lay RX11 TX11 9 ∈ wsL_law := tseg_2 (by decide +kernel) (List.mem_of_getElem? (i := 176) (by decide +kernel))
theorem fX11_10 : u_lay RX11 TX11 10 ∈ wsL_law := tseg_2 (by decide +kernel) (List.mem_of_getElem? (i := 178) (by decide +kernel))
theorem fX11_11 : u_lay RX11 TX11 11 ∈ wsL_law := tseg_2 (by decide +kernel) (List.mem_of_getElem? (i := 180) (by decide +kernel))
theorem fX11_12 : u_lay RX11 TX11 12 ∈ wsL_law := tseg_2 (by decide +kernel) (List.mem_of_getElem? (i := 182) (by decide +kernel))
theorem fX11_13 : u_lay RX11 TX11 13 ∈ wsL_law := tseg_2 (by decide +kernel) (List.mem_of_getElem? (i := 184) (by decide +kernel))
theorem fX11_14 : u_lay RX11 TX11 14 ∈ wsL_law := tseg_2 (by decide +kernel) (List.mem_of_getElem? (i := 186) (by decide +kernel))
theorem fX11_15 : u_lay RX11 TX11 15 ∈ wsL_law := tseg_2 (by decide +kernel) (List.mem_of_getElem? (i := 188) (by decide +kernel))
theorem fX11_16 : u_lay RX11 TX11 16 ∈ wsL_law := tseg_2 (by decide +kernel) (List.mem_of_getElem? (i := 190) (by decide +kernel))
theorem fX11_17 : u_lay RX11 TX11 17 ∈ wsL_law := tseg_2 (by decide +kernel) (List.mem_of_getElem? (i := 192) (by decide +kernel))
theorem inlX11 : ∀ w ∈ wsX110, w ∈ wsL_law := by
  intro w h
  obtain ⟨k, hk, rfl⟩ := List.mem_map.mp h
  have hk := List.mem_range.mp hk
  rcases (show k = 0 ∨ k = 1 ∨ k = 2 ∨ k = 3 ∨ k = 4 ∨ k = 5 ∨ k = 6 ∨ k = 7 ∨ k = 8 ∨ k = 9 ∨ k = 10 ∨ k = 11 ∨ k = 12 ∨ k = 13 ∨ k = 14 ∨ k = 15 ∨ k = 16 ∨ k = 17 by omega) with rfl | rfl | rfl | rfl | rfl | rfl | rfl | rfl | rfl | rfl | rfl | rfl | rfl | rfl | rfl | rfl | rfl | rfl
  · exact fX11_0
  · exact fX11_1
  · exact fX11_2
  · exact fX11_3
  · exact fX11_4
  · exact fX11_5
  · exact fX11_6
  · exact fX11_7
  · exact fX11_8
  · exact fX11_9
  · exact fX11_10
  · exact fX11_11
  · exact fX11_12
  · exact fX11_13
  · exact fX11_14
  · exact fX11_15
  · exact fX11_16
  · exact fX11_17
theorem fX12_0 : u_lay RX12 TX12 0 ∈ wsL_law := tseg_5 (by decide +kernel) (List.mem_of_getElem? (i := 162) (by decide +kernel))
theorem fX12_1 : u_lay RX12 TX12 1 ∈ wsL_law := tseg_5 (by decide +kernel) (List.mem_of_getElem? (i := 164) (by decide +kernel))
theorem fX12_2 : u_lay RX12 TX12 2 ∈ wsL_law := tseg_5 (by decide +kernel) (List.mem_of_getElem? (i := 166) (by decide +kernel))
theorem fX12_3 : u_lay RX12 TX12 3 ∈ wsL_law := tseg_5 (by decide +kernel) (List.mem_of_getElem? (i := 168) (by decide +kernel))
theorem fX12_4 : u_lay RX12 TX12 4 ∈ wsL_law := tseg_5 (by decide +kernel) (List.mem_of_getElem? (i := 170) (by decide +kernel))
theorem fX12_5 : u_lay RX12 TX12 5 ∈ wsL_law := tseg_5 (by decide +kernel) (List.mem_of_getElem? (i := 172) (by decide +kernel))
theorem fX12_6 : u_lay RX12 TX12 6 ∈ wsL_law := tseg_5 (by decide +kernel) (List.mem_of_getElem? (i := 174) (by decide +kernel))
theorem fX12_7 : u_lay RX12 TX12 7 ∈ wsL_law := tseg_5 (by decide +kernel) (List.mem_of_getElem? (i := 176) (by decide +kernel))
theorem fX12_8 : u_lay RX12 TX12 8 ∈ wsL_law := tseg_5 (by decide +kernel) (List.mem_of_getElem? (i := 178) (by decide +kernel))
theorem fX12_9 : u_lay RX12 TX12 9 ∈ wsL_law := tseg_5 (by decide +kernel) (List.mem_of_getElem? (i := 180) (by decide +kernel))
theorem fX12_10 : u_lay RX12 TX12 10 ∈ wsL_law := tseg_5 (by decide +kernel) (List.mem_of_getElem? (i := 182) (by decide +kernel))
theorem fX12_11 : u_lay RX12 TX12 11 ∈ wsL_law := tseg_5 (by decide +kernel) (List.mem_of_getElem? (i := 184) (by decide +kernel))
theorem fX12_12 : u_lay RX12 TX12 12 ∈ wsL_law := tseg_5 (by decide +kernel) (List.mem_of_getElem? (i := 186) (by decide +kernel))
theorem fX12_13 : u_lay RX12 TX12 13 ∈ wsL_law := tseg_5 (by decide +kernel) (List.mem_of_getElem? (i := 188) (by decide +kernel))
theorem fX12_14 : u_lay RX12 TX12 14 ∈ wsL_law := tseg_5 (by decide +kernel) (List.mem_of_getElem? (i := 190) (by decide +kernel))
theorem fX12_15 : u_lay RX12 TX12 15 ∈ wsL_law := tseg_5 (by decide +kernel) (List.mem_of_getElem? (i := 192) (by decide +kernel))
theorem fX12_16 : u_lay RX12 TX12 16 ∈ wsL_law := tseg_5 (by decide +kernel) (List.mem_of_getElem? (i := 194) (by decide +kernel))
theorem fX12_17 : u_lay RX12 TX12 17 ∈ wsL_law := tseg_5 (by decide +kernel) (List.mem_of_getElem? (i := 196) (by decide +kernel))
theorem fX12_18 : u_lay RX12 TX12 18 ∈ wsL_law := tseg_5 (by decide +kernel) (List.mem_of_getElem? (i := 198) (by decide +kernel))
theorem fX12_19 : u_lay RX12 TX12 19 ∈ wsL_law := tseg_5 (by decide +kernel) (List.mem_of_getElem? (i := 200) (by decide +kernel))
theorem fX12_20 : u_lay RX12 TX12 20 ∈ wsL_law := tseg_5 (by decide +kernel) (List.mem_of_getElem? (i := 202) (by decide +kernel))
theorem fX12_21 : u_lay RX12 TX12 21 ∈ wsL_law := tseg_5 (by decide +kernel) (List.mem_of_getElem? (i := 204) (by decide +kernel))
theorem fX12_22 : u_lay RX12 TX12 22 ∈ wsL_law := tseg_5 (by decide +kernel) (List.mem_of_getElem? (i := 206) (by decide +kernel))
theorem fX12_23 : u_lay RX12 TX12 23 ∈ wsL_law := tseg_5 (by decide +kernel) (List.mem_of_getElem? (i := 208) (by decide +kernel))
theorem fX12_24 : u_lay RX12 TX12 24 ∈ wsL_law := tseg_5 (by decide +kernel) (List.mem_of_getElem? (i := 210) (by decide +kernel))
theorem fX12_25 : u_lay RX12 TX12 25 ∈ wsL_law := tseg_5 (by decide +kernel) (List.mem_of_getElem? (i := 212) (by decide +kernel))
theorem fX12_26 : u_lay RX12 TX12 26 ∈ wsL_law := tseg_5 (by decide +kernel) (List.mem_of_getElem? (i := 214) (by decide +kernel))
theorem fX12_27 : u_lay RX12 TX12 27 ∈ wsL_law := tseg_5 (by decide +kernel) (List.mem_of_getElem? (i := 216) (by decide +kernel))
theorem fX12_28 : u_lay RX12 TX12 28 ∈ wsL_law := tseg_5 (by decide +kernel) (List.mem_of_getElem? (i := 218) (by decide +kernel))
theorem fX12_29 : u_lay RX12 TX12 29 ∈ wsL_law := tseg_5 (by decide +kernel) (List.mem_of_getElem? (i := 220) (by decide +kernel))
theorem fX12_30 : u_lay RX12 TX12 30 ∈ wsL_law := tseg_5 (by decide +kernel) (List.mem_of_getElem? (i := 222) (by decide +kernel))
theorem fX12_31 : u_lay RX12 TX12 31 ∈ wsL_law := tseg_5 (by decide +kernel) (List.mem_of_getElem? (i := 224) (by decide +kernel))
theorem fX12_32 : u_lay RX12 TX12 32 ∈ wsL_law := tseg_5 (by decide +kernel) (List.mem_of_getElem? (i := 226) (by decide +kernel))
theorem fX12_33 : u_lay RX12 TX12 33 ∈ wsL_law := tseg_5 (by decide +kernel) (List.mem_of_getElem? (i := 228) (by decide +kernel))
theorem fX12_34 : u_lay RX12 TX12 34 ∈ wsL_law := tseg_5 (by decide +kernel) (List.mem_of_getElem? (i := 230) (by decide +kernel))
theorem inlX12 : ∀ w ∈ wsX120, w ∈ wsL_law := by
  intro w h
  obtain ⟨k, hk, rfl⟩ := List.mem_map.mp h
  have hk := List.mem_range.mp hk
  rcases (show k = 0 ∨ k = 1 ∨ k = 2 ∨ k = 3 ∨ k = 4 ∨ k = 5 ∨ k = 6 ∨ k = 7 ∨ k = 8 ∨ k = 9 ∨ k = 10 ∨ k = 11 ∨ k = 12 ∨ k = 13 ∨ k = 14 ∨ k = 15 ∨ k = 16 ∨ k = 17 ∨ k = 18 ∨ k = 19 ∨ k = 20 ∨ k = 21 ∨ k = 22 ∨ k = 23 ∨ k = 24 ∨ k = 25 ∨ k = 26 ∨ k = 27 ∨ k = 28 ∨ k = 29 ∨ k = 30 ∨ k = 31 ∨ k = 32 ∨ k = 33 ∨ k = 34 by omega) with rfl | rfl | rfl | rfl | rfl | rfl | rfl | rfl | rfl | rfl | rfl | rfl | rfl | rfl | rfl | rfl | rfl | rfl | rfl | rfl | rfl | rfl | rfl | rfl | rfl | rfl | rfl | rfl | rfl | rfl | rfl | rfl | rfl | rfl | rfl
  · exact fX12_0
  · exact fX12_1
  · exact fX12_2
  · exact fX12_3
  · exact fX12_4
  · exact fX12_5
  · exact fX12_6
  · exact fX12_7
  · exact fX12_8
  · exact fX12_9
  · exact fX12_10
  · exact fX12_11
  · exact fX12_12
  · exact fX12_13
  · exact fX12_14
  · exact fX12_15
  · exact fX12_16
  · exact fX12_17
  · exact fX12_18
  · exact fX12_19
  · exact fX12_20
  · exact fX12_21
  · exact fX12_22
  · exact fX12_23
  · exact fX12_24
  · exact fX12_25
  · exact fX12_26
  · exact fX12_27
  · exact fX12_28
  · exact fX12_29
  · exact fX12_30
  · exact fX12_31
  · exact fX12_32
  · exact fX12_33
  · exact fX12_34
