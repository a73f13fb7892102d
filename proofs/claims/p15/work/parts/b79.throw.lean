theorem tx_keepP {D : va_G} {ws : va_W} {H H1 : Heap} (hP : va_P D vwCl ws H) (hk : ∀ q : Nat, q < H.size → H1[q]? = H[q]?) : va_P D vwCl ws H1 := hP.kept (fun k q h => hk q.1 (hP k q h).lt)
theorem tx_F {A : Nat → Prop} {s t : State} {H : Heap} {locs : List Loc} (hS : va_S A s.heap H locs) (hz : H.size ≤ t.heap.size) (hk : ∀ q : Nat, q < H.size → t.heap[q]? = H[q]?) : va_F A s t := ⟨Nat.le_trans hS.1 hz, fun q h1 h2 => (hk q (Nat.lt_of_lt_of_le h1 hS.1)).trans (hS.2.1 q h1 h2)⟩
/-- what a throw needs beside the good words -/
def ZT (A : Nat → Prop) (U : State) (H : Heap) : Prop := vx_Zq Bundle.tN "UNASSIGNED_STACK" Bundle.steD A U H ∧ vx_Zq Bundle.tN "SUPPRESSED_SENTINEL" Bundle.listD A U H ∧ va_Nw (.declares (Bundle.init0 "java/lang/RuntimeException")) U ∧ va_Nw (.declares (Bundle.init0 "java/lang/Exception")) U ∧ va_Nw (.declares (Bundle.init0 Bundle.tN)) U ∧ va_Nw (.castable "java/util/NoSuchElementException" "java/util/NoSuchElementException") U
theorem ZT.same {A : Nat → Prop} {u U : State} {H : Heap} (h : ZT A u H) (e : u.vm = U.vm) : ZT A U H := by
  obtain ⟨h1, h2, h3, h4, h5, h6⟩ := h
  have al : u.vm.Alike U.vm := by rw [e]; exact Vm.Alike.refl _
  exact ⟨vx_Zq.moved al h1, vx_Zq.moved al h2, va_Nw.same rfl e h3, va_Nw.same rfl e h4, va_Nw.same rfl e h5, va_Nw.same rfl e h6⟩
theorem ZT.warm {A : Nat → Prop} {s U : State} {H : Heap} (h : ZT A s H) (hW : s.WarmedH U.vm) : ZT A U H := by
  obtain ⟨h1, h2, h3, h4, h5, h6⟩ := h
  exact ⟨vx_Zq.moved hW.alike h1, vx_Zq.moved hW.alike h2, va_Nw.warmD hW h3, va_Nw.warmD hW h4, va_Nw.warmD hW h5, va_Nw.warmC hW h6⟩
theorem ZT.kept {A B : Nat → Prop} {s : State} {H0 H : Heap} {locs : List Loc} (h : ZT A s H0) (hS : va_S A H0 H locs) (hB : ∀ q, B q → A q) : ZT B s H := by
  obtain ⟨h1, h2, h3⟩ := h
  exact ⟨(h1.kept hS.2.1).narrow hB, (h2.kept hS.2.1).narrow hB, h3⟩
theorem tz_blX {D : va_G} {av : List Value} {w : va_W} {tys : List (ClassId × FieldType)} {sz : Nat} {A : Nat → Prop} : FrameBlind (va_Pc av (fun U => U.heap.size = sz ∧ va_P D vwCl w U.heap ∧ va_K D vwCl tys U ∧ va_D (fun _ => True) w ∧ ZT A U U.heap)) := fun a U g mk q => by
  obtain ⟨q0, q1, qP, qK, qD, qZ⟩ := q
  exact ⟨q0, q1, qP, va_K.moved (u := U) (U := U.calling g mk a) (Vm.Alike.refl U.vm) qK, qD, ZT.same (u := U) (U := U.calling g mk a) qZ rfl⟩
theorem tz_preX {D : va_G} {s : State} {H : Heap} {w : va_W} {tys : List (ClassId × FieldType)} {av : List Value} {A B : Nat → Prop} (hP : va_P D vwCl w H) (hK : va_K D vwCl tys s) (hD : va_D A w) (hZ : ZT B s H) : ∀ U : State, U.heap = H → s.WarmedH U.vm → va_Pc av (fun U => U.heap.size = H.size ∧ va_P D vwCl w U.heap ∧ va_K D vwCl tys U ∧ va_D (fun _ => True) w ∧ ZT B U U.heap) av.toArray U := fun U hU hW => ⟨rfl, by rw [hU], by rw [hU]; exact hP, va_K.moved hW.alike hK, hD.weaken (fun _ _ _ _ => trivial), by rw [hU]; exact hZ.warm hW⟩
theorem tx_x0 : ∀ w ∈ (vx_at0 RX11 137 "java/util/NoSuchElementException" ["java/lang/RuntimeException", "java/lang/Exception"]).filter goodWord, w ∈ lw_tbl := by decide +kernel
theorem tx_x1 : ∀ w ∈ (vx_at0 RX11 137 "java/util/NoSuchElementException" ["java/lang/RuntimeException", "java/lang/Exception"]).filter goodWord, w ∈ wsL_law := fun w h => List.mem_filter.mpr ⟨tx_x0 w h, (List.mem_filter.mp h).2⟩
theorem tx_x2 : ∀ w ∈ (vx_at0 RX11 137 "java/util/NoSuchElementException" ["java/lang/RuntimeException", "java/lang/Exception"]).filter (fun w => !goodWord w), w ∈ ([.declares (Bundle.init0 "java/lang/RuntimeException"), .declares (Bundle.init0 "java/lang/Exception"), .declares (Bundle.init0 Bundle.tN), .castable "java/util/NoSuchElementException" "java/util/NoSuchElementException"] : List Cond) := by decide +kernel
theorem tx_good : ∀ w ∈ Cond.classLink RX11 135 "java/util/NoSuchElementException" :: Cond.initialized "java/util/NoSuchElementException" :: vx_at0 RX11 137 "java/util/NoSuchElementException" ["java/lang/RuntimeException", "java/lang/Exception"], vx_ot w = true := by decide +kernel
theorem tx_at {A : Nat → Prop} {args : Array Value} {s : State} {H : Heap} (hts : ∀ w ∈ wsL_law, w.before args s = true) (hZ : ZT A s H) : ∀ w ∈ vx_at0 RX11 137 "java/util/NoSuchElementException" ["java/lang/RuntimeException", "java/lang/Exception"], w.before args s = true :=
  vx_hat (fun w h => hts w (tx_x1 w h)) tx_x2 (vx_c (va_Nw.use rfl hZ.2.2.1) (vx_c (va_Nw.use rfl hZ.2.2.2.1) (vx_c (va_Nw.use rfl hZ.2.2.2.2.1) (vx_c (va_Nw.use rfl hZ.2.2.2.2.2) vx_n))))
