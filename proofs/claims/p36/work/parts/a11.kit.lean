/-- the word of an array over arrays, seen at a state -/
def va_AOA (ty : FieldType) (U : State) : Prop := (Cond.arrayOver (.array ty)).before #[] U = true
theorem va_AOA.use {ty : FieldType} {A : Array Value} {U : State} (h : va_AOA ty U) : (Cond.arrayOver (.array ty)).before A U = true := h
theorem va_AOA.of {ty : FieldType} {A : Array Value} {U : State} (h : (Cond.arrayOver (.array ty)).before A U = true) : va_AOA ty U := h
/-! ===== BEGIN words of one list among another's, by their places ===== -/
theorem goodIn_r {big : List Cond} (ws : List Cond) (ps : List Nat) (hp : ws = ps.filterMap (fun i => big[i]?)) (h : ws.all goodWord = true) : GoodIn big ws := by
  intro w hw
  have h1 := List.all_eq_true.mp h w hw
  rw [hp] at hw
  obtain ⟨i, -, hi⟩ := List.mem_filterMap.mp hw
  have hm : w ∈ big := by first | exact List.mem_of_getElem? hi | exact List.getElem?_mem hi
  exact ⟨hm, good_of_word h1⟩
theorem goodIn_app {big a b : List Cond} (ha : GoodIn big a) (hb : GoodIn big b) : GoodIn big (a ++ b) := fun w h => (List.mem_append.mp h).elim (ha w) (hb w)
theorem goodIn_ca {big a b : List Cond} {c : Cond} (ha : GoodIn big (c :: a)) (hb : GoodIn big b) : GoodIn big (c :: (a ++ b)) := fun w h => (List.mem_cons.mp h).elim (fun e => ha w (List.mem_cons.mpr (Or.inl e))) (fun h => (List.mem_append.mp h).elim (fun h => ha w (List.mem_cons.mpr (Or.inr h))) (hb w))
theorem goodIn_sub {big ws : List Cond} (hm : ∀ w ∈ ws, w ∈ big) (h : ws.all goodWord = true) : GoodIn big ws := fun w hw => ⟨hm w hw, good_of_word (List.all_eq_true.mp h w hw)⟩
/-! ===== END ===== -/

/-! ===== BEGIN new T[n][m]: the outer array a place, the inner ones among the pooled ===== -/
/-- f, but v at every address of l -/
def vr_up {α : Type} (f : Nat → α) (l : List Nat) (v : α) : Nat → α := fun a => if a ∈ l then v else f a
theorem vr_up_in {α : Type} {f : Nat → α} {l : List Nat} {v : α} {a : Nat} (h : a ∈ l) : vr_up f l v a = v := if_pos h
theorem vr_up_ne {α : Type} {f : Nat → α} {l : List Nat} {v : α} {a : Nat} (h : a ∉ l) : vr_up f l v a = f a := if_neg h
theorem vr_rows {L l : List Nat} {f : Nat → va_E} {e : va_E} (h : ∀ a, a ∈ l → a ∉ L) : va_pl L f ++ l.map (fun a => (a, e)) = va_pl (L ++ l) (vr_up f l e) := by
  unfold va_pl
  rw [List.map_append]
  congr 1
  · apply List.map_congr_left
    intro a ha
    rw [vr_up_ne (fun q => h a q ha)]
  · apply List.map_congr_left
    intro a ha
    rw [vr_up_in ha]
theorem vr_lay {X rows : va_W} {x : Nat × va_E} {pl : va_W} {D : va_G} {cl : List vw_C} {H : Heap} (hP : va_P D cl (((X ++ pl) ++ [x]) ++ rows) H) : va_P D cl ((X ++ [x]) ++ (pl ++ rows)) H := by
  rw [List.append_assoc (X ++ pl)] at hP
  have h := va_P.swap hP
  rw [← List.append_assoc X] at h
  have h2 := va_P.swap h
  rw [List.append_assoc (X ++ [x])] at h2
  exact h2
theorem vr_layD {X rows : va_W} {x : Nat × va_E} {pl : va_W} {A : Nat → Prop} (hD : va_D A (((X ++ pl) ++ [x]) ++ rows)) : va_D A ((X ++ [x]) ++ (pl ++ rows)) := by
  rw [List.append_assoc (X ++ pl)] at hD
  have h := va_D.swap hD
  rw [← List.append_assoc X] at h
  have h2 := va_D.swap h
  rw [List.append_assoc (X ++ [x])] at h2
  exact h2
theorem vr_outer (c : ClassId) (N h0 : Nat) : ∀ i : Nat, Jvm.Free.Multi.outerC c N h0 i = arrV c N (fun j => va_rf (if j < i then some (h0 + 1 + j) else none))
  | 0 => by
    show ({ cls := c, slots := Array.replicate N .null, vm := .none } : Cell) = _
    rw [arrV_new]
    refine congrArg (arrV c N) (funext fun j => ?_)
    simp [va_rf]
  | i + 1 => by
    show (Jvm.Free.Multi.outerC c N h0 i).setSlot i (.ref (h0 + 1 + i)) = _
    rw [vr_outer c N h0 i, arrV_store]
    refine congrArg (arrV c N) (funext fun j => ?_)
    by_cases e : j = i
    · subst e
      simp [updV, va_rf]
    · by_cases h : j < i
      · simp [updV, e, h, Nat.lt_succ_of_lt h]
      · simp [updV, e, h, show ¬ j < i + 1 by omega]
section VGM
variable {p : Program} {l : Launch} {e : Env} {R : Room} {s : State} {m : MethodId} {args : Array Value} {below : List Frame} {meth : Method} {c : Code} {H : Heap} {locs : List Loc} {cells slots : Nat} {Q : State → Prop}
variable {cc : ByteArray} {pc : Nat} {ls : Array Slot} {rest : List Value} {D : va_G} {cl : List vw_C} {A : Nat → Prop} {a : Nat} {tys : List (ClassId × FieldType)} {ws : va_W} {H0 : Heap}
theorem va_mna {X : va_W} {L : List Nat} {f : Nat → va_E} {cc : ByteArray} (hexec : p.tables.exec = Jvm.exec) (hb : c.code = cc) {own : String} {index : Nat} {ty : FieldType} {cy : ClassId} (hown : s.vm.findClass own = some m.cls) (hclink : (Cond.classLink own index ("[" ++ (FieldType.array ty).toString)).before args s = true) (hover : va_AOA ty s) (harr : (Cond.arrayClass ty).before args s = true) (hcy : s.vm.findClass (FieldType.array ty).toString = some cy)
    (hK : va_K D cl tys s) (hP : va_P D cl (X ++ va_pl L f) H) (hD : va_D A (X ++ va_pl L f)) (hS : va_S A H0 H locs) (hA : ∀ q, H0.size ≤ q → A q) {n k : Int32} {N' K' : Nat} {z : vp_A} (hn : ¬ n < 0) (hk : ¬ k < 0) (hN : n.toNatClampNeg = N') (hM : k.toNatClampNeg = K')
    (hb1 : N' * 4 ≤ 536870912) (hb2 : K' * componentBytes ty ≤ 536870912) (hb3 : K' ≤ 536870912) (hdf : fits ty (defaultValue ty) = true) (hdd : (defaultValue ty).isDefault = true) (hcells : cells + (1 + N') ≤ R.cells) (hslots : slots + (N' + N' * K') ≤ R.slots) (hz : ∀ c : ClassId, Jvm.Free.Multi.innerC c K' (defaultValue ty) = vp_cell c z) (hdg : decode cc pc = .ok (.multianewarray index 2, 4))
    (kk : ∀ (q : Nat) (r : Nat → Nat) (cA : ClassId) (H1 : Heap), (∀ i j : Nat, i < N' → j < N' → r i = r j → i = j) → (∀ i : Nat, i < N' → r i ∉ L) → va_K D cl (tys ++ [(cA, .array ty)]) s →
      va_P D cl ((X ++ [(q, .inl (cA, N', .inr (.inr (.inr (.inr (fun i => if i < N' then some (r i) else none))))))]) ++ va_pl (L ++ (List.range N').map r) (vr_up f ((List.range N').map r) (.inl (cy, z)))) H1 → va_D A ((X ++ [(q, .inl (cA, N', .inr (.inr (.inr (.inr (fun i => if i < N' then some (r i) else none))))))]) ++ va_pl (L ++ (List.range N').map r) (vr_up f ((List.range N').map r) (.inl (cy, z)))) → va_S A H0 H1 locs →
      W p l e R s m args below meth c H1 locs (cells + 1 + N') (slots + N' + N' * K') Q (F0 m (pc + 4) ls (.ref q :: rest))) : W p l e R s m args below meth c H locs cells slots Q (F0 m pc ls (.int k :: .int n :: rest)) := by
  subst hN
  subst hM
  intro T hT Xs
  obtain ⟨vm₁, cA, comp, -, fA, fC, hO, -, X', step⟩ := Xs.multianewarray2F hexec hown hclink (va_AOA.use hover) harr (g := F0 m pc ls (.int k :: .int n :: rest)) rfl (by rw [hb]; exact hdg) rfl hn hk hb1 hb2 hb3 hdf hdd hcells hslots
  have ec : some cy = some comp := hcy.symm.trans fC
  cases ec
  generalize hF : Jvm.Free.Multi.fill (T.setVm vm₁) cA cy n.toNatClampNeg k.toNatClampNeg (defaultValue ty) n.toNatClampNeg = F at X' step
  have hTh : (T.setVm vm₁).heap = H := hT
  obtain ⟨f1, f2, -, -⟩ := Jvm.Free.Multi.fill_facts (T.setVm vm₁) cA cy n.toNatClampNeg k.toNatClampNeg (defaultValue ty) n.toNatClampNeg
  rw [hF, hTh] at f1 f2
  have hold : ∀ x : Nat, x < H.size → F.heap[x]? = H[x]? := fun x hx => by
    have := Jvm.Free.Multi.fill_old (T.setVm vm₁) cA cy n.toNatClampNeg k.toNatClampNeg (defaultValue ty) (a := x) (by rw [hTh]; exact hx) n.toNatClampNeg
    rw [hF, hTh] at this
    exact this
  have hrow : ∀ j : Nat, j < n.toNatClampNeg → F.heap[H.size + 1 + j]? = some (vp_cell cy z) := fun j hj => by
    have := Jvm.Free.Multi.fill_inner (T.setVm vm₁) cA cy n.toNatClampNeg k.toNatClampNeg (defaultValue ty) n.toNatClampNeg j hj
    rw [hF, hTh, hz] at this
    exact this
  have hout : Jvm.Free.Multi.outerC cA n.toNatClampNeg H.size n.toNatClampNeg = vp_cell cA (n.toNatClampNeg, .inr (.inr (.inr (.inr (fun i => if i < n.toNatClampNeg then some (H.size + 1 + i) else none))))) := by
    rw [vp_cell_q]
    exact vr_outer cA n.toNatClampNeg H.size n.toNatClampNeg
  rw [hout] at f2
  have hlt : ∀ a, a ∈ L → a < H.size := fun a ha => by
    obtain ⟨k9, hk9⟩ := va_pl_get (X := X) (f := f) ha
    exact (hP k9 _ hk9).lt
  have hnl : ∀ i : Nat, i < n.toNatClampNeg → H.size + 1 + i ∉ L := fun i _ h => by
    have := hlt _ h
    omega
  have hnm : ∀ a, a ∈ (List.range n.toNatClampNeg).map (fun i => H.size + 1 + i) → a ∉ L := fun a ha h => by
    obtain ⟨i, -, rfl⟩ := List.mem_map.mp ha
    have := hlt _ h
    omega
  have hP0 : va_P D cl (X ++ va_pl L f) F.heap := hP.kept (fun k9 x hx => hold x.1 ((hP k9 x hx).lt))
  have hP1 : va_P D cl ((X ++ va_pl L f) ++ [(H.size, .inl (cA, n.toNatClampNeg, .inr (.inr (.inr (.inr (fun i => if i < n.toNatClampNeg then some (H.size + 1 + i) else none))))))]) F.heap := hP0.app (fun k9 x hx => by
    have h0 : k9 < 1 := (List.getElem?_eq_some_iff.mp hx).1
    rw [show k9 = 0 by omega] at hx
    cases hx
    exact f2)
  have hP2 : va_P D cl (((X ++ va_pl L f) ++ [(H.size, .inl (cA, n.toNatClampNeg, .inr (.inr (.inr (.inr (fun i => if i < n.toNatClampNeg then some (H.size + 1 + i) else none))))))]) ++ ((List.range n.toNatClampNeg).map (fun i => H.size + 1 + i)).map (fun a => (a, .inl (cy, z)))) F.heap := hP1.app (fun k9 x hx => by
    obtain ⟨a, ha, rfl⟩ := List.mem_map.mp (List.mem_of_getElem? hx)
    obtain ⟨i, hi, rfl⟩ := List.mem_map.mp ha
    exact hrow i (List.mem_range.mp hi))
  have hD2 : va_D A (((X ++ va_pl L f) ++ [(H.size, .inl (cA, n.toNatClampNeg, .inr (.inr (.inr (.inr (fun i => if i < n.toNatClampNeg then some (H.size + 1 + i) else none))))))]) ++ ((List.range n.toNatClampNeg).map (fun i => H.size + 1 + i)).map (fun a => (a, .inl (cy, z)))) := by
    have hD1 := hD.push (e := .inl (cA, n.toNatClampNeg, .inr (.inr (.inr (.inr (fun i => if i < n.toNatClampNeg then some (H.size + 1 + i) else none)))))) hP rfl (hA _ hS.1)
    generalize hW1 : (X ++ va_pl L f) ++ [(H.size, .inl (cA, n.toNatClampNeg, .inr (.inr (.inr (.inr (fun i => if i < n.toNatClampNeg then some (H.size + 1 + i) else none))))))] = W1 at hD1 hP1 ⊢
    have hle : ∀ (k9 : Nat) (x : Nat × va_E), W1[k9]? = some x → x.1 ≤ H.size := fun k9 x hx => by
      rw [← hW1] at hx
      by_cases hl : k9 < (X ++ va_pl L f).length
      · rw [List.getElem?_append_left hl] at hx
        exact Nat.le_of_lt ((hP k9 x hx).lt)
      · rw [List.getElem?_append_right (by omega)] at hx
        have h0 : k9 - (X ++ va_pl L f).length < 1 := (List.getElem?_eq_some_iff.mp hx).1
        rw [show k9 - (X ++ va_pl L f).length = 0 by omega] at hx
        cases hx
        exact Nat.le_refl _
    have hr : ∀ (k9 : Nat) (x : Nat × va_E), (((List.range n.toNatClampNeg).map (fun i => H.size + 1 + i)).map (fun a => ((a, .inl (cy, z)) : Nat × va_E)))[k9]? = some x → x.1 = H.size + 1 + k9 := fun k9 x hx => by
      rw [List.getElem?_map, List.getElem?_map] at hx
      by_cases h9 : k9 < n.toNatClampNeg
      · rw [List.getElem?_range h9] at hx
        cases hx
        rfl
      · have hn0 : (List.range n.toNatClampNeg)[k9]? = none := List.getElem?_eq_none (by rw [List.length_range]; omega)
        rw [hn0] at hx
        cases hx
    refine ⟨fun i j x y hi hj hxy => ?_, fun k9 x hx => ?_⟩
    · by_cases h1 : i < W1.length <;> by_cases h2 : j < W1.length
      · rw [List.getElem?_append_left h1] at hi
        rw [List.getElem?_append_left h2] at hj
        exact hD1.1 i j x y hi hj hxy
      · rw [List.getElem?_append_left h1] at hi
        rw [List.getElem?_append_right (by omega)] at hj
        have := hle _ _ hi
        have := hr _ _ hj
        omega
      · rw [List.getElem?_append_right (by omega)] at hi
        rw [List.getElem?_append_left h2] at hj
        have := hle _ _ hj
        have := hr _ _ hi
        omega
      · rw [List.getElem?_append_right (by omega)] at hi hj
        have := hr _ _ hi
        have := hr _ _ hj
        omega
    · by_cases h1 : k9 < W1.length
      · rw [List.getElem?_append_left h1] at hx
        exact hD1.2 k9 x hx
      · rw [List.getElem?_append_right (by omega)] at hx
        have := hr _ _ hx
        exact hA _ (by have := hS.1; omega)
  have hAr : ArrOfT s cA (.array ty) := fun N9 z9 => by
    obtain ⟨-, k9, hk9, cm9, hkk9⟩ := (hO 0 0 0).1
    exact ⟨(fun q hq => by cases hq), k9, hk9, cm9, hkk9⟩
  have hK2 : va_K D cl (tys ++ [(cA, .array ty)]) s := ⟨hK.1, fun k9 x hx => by
    by_cases hl : k9 < tys.length
    · rw [List.getElem?_append_left hl] at hx
      exact hK.2 k9 x hx
    · rw [List.getElem?_append_right (by omega)] at hx
      have h0 : k9 - tys.length < 1 := (List.getElem?_eq_some_iff.mp hx).1
      rw [show k9 - tys.length = 0 by omega] at hx
      cases hx
      exact ⟨hAr, fA⟩⟩
  obtain ⟨t, a1, b1⟩ := kk H.size (fun i => H.size + 1 + i) cA F.heap (fun i j _ _ h => by have h9 : H.size + 1 + i = H.size + 1 + j := h; omega) hnl hK2 (by rw [← vr_rows hnm]; exact vr_lay hP2) (by rw [← vr_rows hnm]; exact vr_layD hD2) ⟨by rw [f1]; have := hS.1; omega, fun x h1 h2 => (hold x (Nat.lt_of_lt_of_le h1 hS.1)).trans (hS.2.1 x h1 h2), hS.2.2⟩ F rfl X'
  refine ⟨t, step t ?_, b1⟩
  have e : T.heap.size = H.size := by rw [hT]
  rw [e]
  exact a1
end VGM
/-! ===== END ===== -/

/-! ===== BEGIN exceptions that leave a method, and their catching by the caller (launches without stack traces) ===== -/
section VXA
/-! The laws vx_back, vx_callV, vx_callS, vx_callSW, vx_throw0, vx_throwS follow proofs of the library, with one case more: JvmDerived/Free/Laws.lean (Back.of_free), Shelf42/LK1.lean (callV, callS), Shelf/KitTraced.lean (throwNew0V, throwNewS). -/
/-- where a method has thrown q: the class by its name, the cell, what was written, the world -/
def vx_T (XC : String → State → State → Prop) (st : State) (q : Addr) (t : State) (mc ms : Nat) (free : Addr → Prop) : Prop :=
  ∃ (E : String) (ce : Cell) (L : List Loc), XC E st t ∧ t.heap[q]? = some ce ∧ ce.vm = .none ∧ st.vm.findClass E = some ce.cls ∧ st.WarmedH t.vm ∧ st.sameButNew ({ t with vm := st.vm } : State) L mc ms ∧ ∀ z ∈ L, free z.base
def vx_Q (Qc : Array Value → State → Outcome → State → Prop) (XC : String → State → State → Prop) (mc ms : Nat) (free : Addr → Prop) : Array Value → State → Outcome → State → Prop := fun a st o t =>
  (Qc a st o t ∧ ∃ L, FrameEnd st o t L mc ms ∧ ∀ q ∈ L, free q.base) ∨ ∃ q, o = .threw q ∧ vx_T XC st q t mc ms free
/-- a callee that returns or throws -/
def vx_Met (l : Launch) (y : MethodName) (ws : List Cond) (rm : Room) (Pc : Array Value → State → Prop) (Qc : Array Value → State → Outcome → State → Prop) (XC : String → State → State → Prop) (mc ms : Nat) (free : Addr → Prop) : Prop :=
  MetFree l y (headSpec ws rm) Pc (fun _ _ _ _ _ => True) (vx_Q Qc XC mc ms free)
def vx_Post (XC : String → State → State → Prop) (mc ms : Nat) (free : Addr → Prop) : Pt → Array Value → Addr → Pt → Prop := fun A a q B =>
  ∃ (g : JFrame) (mk : MethodId) (t : State) (L : List Loc) (E : String) (ce : Cell), B.U.heap = t.heap ∧ B.U.vm = t.vm ∧ XC E (A.U.calling g mk a) t ∧ t.heap[q]? = some ce ∧ ce.vm = .none ∧ A.U.vm.findClass E = some ce.cls ∧ B.locs = A.locs ++ L ∧ (∀ z ∈ L, free z.base) ∧ B.cells = A.cells + mc ∧ B.slots = A.slots + ms
def vx_Back (l : Launch) (R : Room) (p : Program) (e : Env) (below : List Frame) (s : State) (sargs : Array Value) (y : MethodName) (len W9 : Nat)
    (Pre : Pt → Array Value → Prop) (Post : Pt → Array Value → Option Value → Pt → Prop) (PostX : Pt → Array Value → Addr → Pt → Prop) : Prop :=
  ∀ (m : MethodId) (meth : Method) (c : Code) (A : Pt) (g : JFrame) (ig : Instr) (mk : MethodId) (a : Array Value),
    Stand p l e R s m sargs below meth c A.U A.locs A.cells A.slots → g.method = m → g.locals.size = c.maxLocals → decode c.code g.pc = .ok (ig, len) →
    2 * g.monitorRoom + (g.stack.map fun v => v.category).sum ≤ W9 → A.U.methodNamed? y = some mk → Pre A a →
    (∃ (v : Option Value) (B : Pt), Stand p l e R s m sargs below meth c B.U B.locs B.cells B.slots ∧ Post A a v B ∧
      Steps p.tables e below (doInvoke e (A.U.setTop g) [] mk a).1 (B.U.setTop { g with pc := g.pc + len, stack := v.toList ++ g.stack })) ∨
    (∃ (q : Addr) (B : Pt), Stand p l e R s m sargs below meth c B.U B.locs B.cells B.slots ∧ PostX A a q B ∧
      Steps p.tables e below (doInvoke e (A.U.setTop g) [] mk a).1 ((B.U.setTop g).pushFrame (.throwing q)))
section Payer
variable {l : Launch} {R : Room} {p : Program} {e : Env} {below : List Frame} {s : State} {sargs : Array Value} {y : MethodName} {len W9 : Nat}
theorem vx_back {ws : List Cond} {rm : Room} {Pc : Array Value → State → Prop} {Qc : Array Value → State → Outcome → State → Prop} {XC : String → State → State → Prop} {mc ms : Nat} {free : Addr → Prop} {bytes : ByteArray} {maxL : Nat} {ret : Option FieldType}
    (hM : vx_Met l y ws rm Pc Qc XC mc ms free) (hblind : FrameBlind Pc) (hrc : rm.cells = mc) (hrs : rm.slots = ms)
    (hframes : rm.frames + 1 ≤ R.frames) (hlocals : W9 + (maxL + 11) + rm.locals ≤ R.locals)
    (hws : ∀ w ∈ ws, ∀ a' U, s.WarmedH U.vm → w.before a' U = true) (hcode : Cond.code y bytes maxL ret ∈ ws) (hinit : ∀ a' U, s.WarmedH U.vm → (Cond.initialized y.cls).before a' U = true) :
    vx_Back l R p e below s sargs y len W9 (PreOf R mc ms Pc) (PostOf Qc mc ms free) (vx_Post XC mc ms free) := by
  intro m meth c A g ig mk a X hg hsize hdg hW hn hp
  have h1 : (headSpec ws rm).pre.before a A.U = true := atoms_intro fun w hw => hws w hw _ _ X.warmed
  have h2 : (Cond.code y bytes maxL ret).before a A.U = true := hws _ hcode _ _ X.warmed
  have h3 : (Cond.initialized y.cls).before a A.U = true := hinit _ _ X.warmed
  have h4 : A.cells + (headSpec ws rm).room.cells ≤ R.cells := by rw [show (headSpec ws rm).room.cells = mc from hrc]; exact hp.1
  have h5 : A.slots + (headSpec ws rm).room.slots ≤ R.slots := by rw [show (headSpec ws rm).room.slots = ms from hrs]; exact hp.2.1
  have hPc : Pc a (A.U.calling g mk a) := hblind _ _ _ _ hp.2.2
  obtain ⟨U, Ls, c0, s0⟩ := A
  dsimp only [Pt.U, Pt.locs, Pt.cells, Pt.slots] at h1 h2 h3 h4 h5 X hn hPc ⊢
  obtain ⟨methY, cY, hmY, hcY, -, hlY, -, -, -, -⟩ := Cond.code_spec hn h2
  obtain ⟨kY, hkY, -⟩ := className_of_methodNamed hn
  have hinitY : kY.init = .initialized := Cond.initialized_spec (findClass_of_methodNamed hn) hkY h3
  have h : At U g.method c below := by rw [hg]; exact X.here
  have hlocals9 : W9 + (maxL + 11) + (headSpec ws rm).room.locals ≤ R.locals := hlocals
  have happ : (headSpec ws rm).appliesLoose y e.platform (U.calling g mk a) = true :=
    Spec.appliesLoose_calling (g := g) h hdg hn hkY hinitY
      (X.room_calling (g := g) (R' := (headSpec ws rm).room) hsize hmY hcY hframes (by rw [hlY]; omega) h4 h5) h1
  obtain ⟨mid, hmid⟩ := h.above
  have hfr : (U.setTop g).frames = (.java g :: mid) ++ below := by rw [State.frames_setTop' g h.top, hmid]; rfl
  obtain ⟨o, s₂, hsteps, -, hend, hq⟩ := Steps.callFree hM p X.admits X.cas X.clock (acts := []) hfr happ hPc trivial
  have hq' : vx_Q Qc XC mc ms free a (U.calling g mk a) o s₂ := hq
  rw [State.frames_setTop' g h.top] at hend
  obtain ⟨g₀, hg0⟩ := Option.isSome_iff_exists.mp h.top
  obtain ⟨r, hr⟩ := State.topJava?_eq_some.mp hg0
  have hr' : (({ U with heap := s₂.heap, slotsUsed := s₂.slotsUsed } : State).setVm s₂.vm).frames = .java g₀ :: r := hr
  rcases hq' with ⟨hqc, L, hfe, hL⟩ | ⟨q, rfl, E, ce, L, hx, hce, hcv, hcl, hW₂, hsm, hL⟩
  · obtain ⟨⟨v, rfl⟩, hW₂, e2, q2, q3, q4, q5, q6⟩ := id hfe
    have e3 : s₂ = ({ (U.calling g mk a).setFrames s₂.frames with heap := s₂.heap, slotsUsed := s₂.slotsUsed } : State).setVm s₂.vm := by
      have : s₂ = ({ s₂ with vm := (U.calling g mk a).vm } : State).setVm s₂.vm := rfl
      rw [e2] at this
      exact this
    obtain ⟨c₂, i₂, len₂, hc₂, hd₂, hf₂⟩ := hend
    have hW' : U.WarmedH s₂.vm := hW₂
    have hcc : c₂ = c := by
      have h1 : s₂.code? g.method = U.code? g.method := by
        rw [State.code?_eq, State.code?_eq, hW'.alike.method?]
      exact Option.some.inj (hc₂.symm.trans (h1.trans h.code))
    subst hcc
    have hlen : len₂ = len := by rw [hdg] at hd₂; cases hd₂; rfl
    subst hlen
    have hs₂ : s₂ = (({ U with heap := s₂.heap, slotsUsed := s₂.slotsUsed } : State).setVm s₂.vm).setTop { g with pc := g.pc + len₂, stack := v.toList ++ g.stack } := by
      refine e3.trans ?_
      rw [hf₂, State.calling_eq h.top, State.setFrames_setFrames, State.setTop_of_frames _ hr', hr]
      rfl
    have hsame : U.sameButNew ({ U with heap := s₂.heap, slotsUsed := s₂.slotsUsed } : State) L mc ms := by
      refine ⟨?_, q2, q3, q4, q5, q6⟩
      obtain ⟨t, ht, -⟩ := State.frames_cons hr
      show ({ U with heap := s₂.heap, slotsUsed := s₂.slotsUsed } : State) = { U.setFrames U.frames with heap := s₂.heap, slotsUsed := s₂.slotsUsed }
      rw [State.setFrames_self ht]
    subst hg
    refine Or.inl ⟨v, ⟨(({ U with heap := s₂.heap, slotsUsed := s₂.slotsUsed } : State).setVm s₂.vm), Ls ++ L, c0 + mc, s0 + ms⟩,
      ⟨X.admits, X.cas, X.clock, X.frames, X.room, X.hears, X.method, X.code, (X.here.setHeapUsed s₂.heap s₂.slotsUsed).setVm hW'.alike, X.tail, State.WarmedH.trans X.warmed hW', X.limits, X.bytes, X.same.trans (hsame.setVm s.vm)⟩,
      ⟨g, mk, s₂, L, rfl, rfl, hqc, rfl, hL, rfl, rfl⟩, ?_⟩
    show Steps p.tables e below _ ((({ U with heap := s₂.heap, slotsUsed := s₂.slotsUsed } : State).setVm s₂.vm).setTop { g with pc := g.pc + len₂, stack := v.toList ++ g.stack })
    rw [← hs₂]
    exact hsteps
  · obtain ⟨e2, q2, q3, q4, q5, q6⟩ := id hsm
    have e3 : s₂ = ({ (U.calling g mk a).setFrames s₂.frames with heap := s₂.heap, slotsUsed := s₂.slotsUsed } : State).setVm s₂.vm := by
      have : s₂ = ({ s₂ with vm := (U.calling g mk a).vm } : State).setVm s₂.vm := rfl
      rw [e2] at this
      exact this
    have hf₂ : s₂.frames = .throwing q :: .java g :: U.frames.tail := hend
    have hW' : U.WarmedH s₂.vm := hW₂
    have hs₂ : s₂ = ((({ U with heap := s₂.heap, slotsUsed := s₂.slotsUsed } : State).setVm s₂.vm).setTop g).pushFrame (.throwing q) := by
      refine e3.trans ?_
      rw [hf₂, State.calling_eq h.top, State.setFrames_setFrames, State.pushFrame, State.frames_setTop _ hr', State.setTop_of_frames _ hr', State.setFrames_setFrames, hr]
      rfl
    have hsame : U.sameButNew ({ U with heap := s₂.heap, slotsUsed := s₂.slotsUsed } : State) L mc ms := by
      refine ⟨?_, q2, q3, q4, q5, q6⟩
      obtain ⟨t, ht, -⟩ := State.frames_cons hr
      show ({ U with heap := s₂.heap, slotsUsed := s₂.slotsUsed } : State) = { U.setFrames U.frames with heap := s₂.heap, slotsUsed := s₂.slotsUsed }
      rw [State.setFrames_self ht]
    subst hg
    refine Or.inr ⟨q, ⟨(({ U with heap := s₂.heap, slotsUsed := s₂.slotsUsed } : State).setVm s₂.vm), Ls ++ L, c0 + mc, s0 + ms⟩,
      ⟨X.admits, X.cas, X.clock, X.frames, X.room, X.hears, X.method, X.code, (X.here.setHeapUsed s₂.heap s₂.slotsUsed).setVm hW'.alike, X.tail, State.WarmedH.trans X.warmed hW', X.limits, X.bytes, X.same.trans (hsame.setVm s.vm)⟩,
      ⟨g, mk, s₂, L, E, ce, rfl, rfl, hx, hce, hcv, hcl, rfl, hL, rfl, rfl⟩, ?_⟩
    show Steps p.tables e below _ (((({ U with heap := s₂.heap, slotsUsed := s₂.slotsUsed } : State).setVm s₂.vm).setTop g).pushFrame (.throwing q))
    rw [← hs₂]
    exact hsteps
end Payer
section Calls
variable {p : Program} {l : Launch} {e : Env} {R : Room} {s : State} {m : MethodId} {args : Array Value} {below : List Frame} {meth : Method} {c : Code} {T : State} {locs : List Loc} {cells slots : Nat}
theorem vx_callV (X : Stand p l e R s m args below meth c T locs cells slots) (hexec : p.tables.exec = Jvm.exec) {own C : String} {index : Nat} {y : MethodName} {bytes : ByteArray} {maxL : Nat} {ret : Option FieldType}
    (hown : s.vm.findClass own = some m.cls) (hlink : (Cond.methodLink own index y).before args s = true) (hinst : (Cond.instanceMethod y).before args s = true) (hsel : (Cond.selects C y y).before args s = true)
    (hcode : (Cond.code y bytes maxL ret).before args s = true) (hy : y.cls ≠ "java/lang/invoke/MethodHandle" ∧ y.cls ≠ "java/lang/invoke/VarHandle")
    {W9 : Nat} {Pre : Pt → Array Value → Prop} {Post : Pt → Array Value → Option Value → Pt → Prop} {PostX : Pt → Array Value → Addr → Pt → Prop} (hK : vx_Back l R p e below s args y 3 W9 Pre Post PostX)
    {b : Addr} {cellB : Cell} (hcell : T.heap[b]? = some cellB) (hobj : cellB.vm.isStatics = false) (hcls : s.vm.findClass C = some cellB.cls)
    {g : JFrame} (hg : g.method = m) (hsize : g.locals.size = c.maxLocals) {argsL rest : List Value} (hlen : ∀ sig, parseMethodDescriptor y.desc = some sig → argsL.length = sig.parameters.length)
    (hstack : g.stack = argsL.reverse ++ .ref b :: rest) (hW : 2 * g.monitorRoom + (rest.map fun v => v.category).sum ≤ W9) (hdg : decode c.code g.pc = .ok (.invokevirtual index, 3))
    (hpre : ∀ vm₁, s.WarmedH vm₁ → Pre ⟨T.setVm vm₁, locs, cells, slots⟩ (Value.ref b :: argsL).toArray) :
    (∃ (v : Option Value) (vm₁ : Vm) (B : Pt), s.WarmedH vm₁ ∧ Stand p l e R s m args below meth c B.U B.locs B.cells B.slots ∧ Post ⟨T.setVm vm₁, locs, cells, slots⟩ (Value.ref b :: argsL).toArray v B ∧
      ∀ target, Steps p.tables e below (B.U.setTop { g with pc := g.pc + 3, stack := v.toList ++ rest }) target → Steps p.tables e below (T.setTop g) target) ∨
    (∃ (q : Addr) (vm₁ : Vm) (B : Pt), s.WarmedH vm₁ ∧ Stand p l e R s m args below meth c B.U B.locs B.cells B.slots ∧ PostX ⟨T.setVm vm₁, locs, cells, slots⟩ (Value.ref b :: argsL).toArray q B ∧
      Steps p.tables e below (T.setTop g) ((B.U.setTop { g with stack := rest }).pushFrame (.throwing q))) := by
  obtain ⟨mk, methM, hnamed, hmethM, hstM, habM⟩ := Cond.instanceMethod_spec hinst
  obtain ⟨methM', cM, hmethM', -, -, -, -, -, -, hsigM⟩ := Cond.code_spec hnamed hcode
  cases hmethM.symm.trans hmethM'
  obtain ⟨c2, r2, m2, q1, q2, q3, q4, kP, hkP, hkPi⟩ := Cond.selects_spec hsel
  cases hcls.symm.trans q1
  cases (State.methodFound?_of_named hnamed hy).symm.trans q2
  cases hnamed.symm.trans q3
  have hselP : selectMethod e.platform s.vm cellB.cls mk = .method mk := by rw [Launch.admits_selectMethod X.admits]; exact q4
  obtain ⟨vm₁, X₁, hstep₁⟩ := X.invokevirtual hexec hown hlink hnamed hmethM hstM hkP hkPi hy (a := b) (cell := cellB) hcell
    (fun z h => by rw [h] at hobj; cases hobj) hselP hmethM habM hkP hkPi (g := g) hg (argsL := argsL) (rest := rest) (hlen _ hsigM) hstack hdg
  rcases hK m meth c ⟨T.setVm vm₁, locs, cells, slots⟩ { g with stack := rest } (.invokevirtual index) mk (Value.ref b :: argsL).toArray X₁ hg hsize hdg hW (X₁.named hnamed) (hpre vm₁ X₁.warmed) with ⟨v, B, X', hpost, hsteps⟩ | ⟨q, B, X', hpost, hsteps⟩
  · exact Or.inl ⟨v, vm₁, B, X₁.warmed, X', hpost, fun target h => hstep₁ _ fun acts => by rw [doInvoke_state]; exact hsteps.trans h⟩
  · exact Or.inr ⟨q, vm₁, B, X₁.warmed, X', hpost, hstep₁ _ fun acts => by rw [doInvoke_state]; exact hsteps⟩
theorem vx_callS (X : Stand p l e R s m args below meth c T locs cells slots) (hexec : p.tables.exec = Jvm.exec) {own : String} {index : Nat} {y : MethodName} {bytes : ByteArray} {maxL : Nat} {ret : Option FieldType}
    (hown : s.vm.findClass own = some m.cls) (hlink : (Cond.methodLink own index y).before args s = true) (hstat : (Cond.static y).before args s = true) (hinit : (Cond.initialized y.cls).before args s = true)
    (hcode : (Cond.code y bytes maxL ret).before args s = true) (hy : y.cls ≠ "java/lang/invoke/MethodHandle" ∧ y.cls ≠ "java/lang/invoke/VarHandle")
    {W9 : Nat} {Pre : Pt → Array Value → Prop} {Post : Pt → Array Value → Option Value → Pt → Prop} {PostX : Pt → Array Value → Addr → Pt → Prop} (hK : vx_Back l R p e below s args y 3 W9 Pre Post PostX)
    {g : JFrame} (hg : g.method = m) (hsize : g.locals.size = c.maxLocals) {argsL rest : List Value} (hlen : ∀ sig, parseMethodDescriptor y.desc = some sig → argsL.length = sig.parameters.length)
    (hstack : g.stack = argsL.reverse ++ rest) (hW : 2 * g.monitorRoom + (rest.map fun v => v.category).sum ≤ W9) (hdg : decode c.code g.pc = .ok (.invokestatic index, 3))
    (hpre : ∀ vm₁, s.WarmedH vm₁ → Pre ⟨T.setVm vm₁, locs, cells, slots⟩ argsL.toArray) :
    (∃ (v : Option Value) (vm₁ : Vm) (B : Pt), s.WarmedH vm₁ ∧ Stand p l e R s m args below meth c B.U B.locs B.cells B.slots ∧ Post ⟨T.setVm vm₁, locs, cells, slots⟩ argsL.toArray v B ∧
      ∀ target, Steps p.tables e below (B.U.setTop { g with pc := g.pc + 3, stack := v.toList ++ rest }) target → Steps p.tables e below (T.setTop g) target) ∨
    (∃ (q : Addr) (vm₁ : Vm) (B : Pt), s.WarmedH vm₁ ∧ Stand p l e R s m args below meth c B.U B.locs B.cells B.slots ∧ PostX ⟨T.setVm vm₁, locs, cells, slots⟩ argsL.toArray q B ∧
      Steps p.tables e below (T.setTop g) ((B.U.setTop { g with stack := rest }).pushFrame (.throwing q))) := by
  obtain ⟨mk, hnamed⟩ := Cond.code_named hcode
  obtain ⟨methM, cM, hmethM, -, -, -, -, -, -, hsigM⟩ := Cond.code_spec hnamed hcode
  have hstatic : methM.isStatic = true := Cond.static_spec hnamed hmethM hstat
  obtain ⟨kP, hkP, -⟩ := className_of_methodNamed hnamed
  have hinitP : kP.init = .initialized := Cond.initialized_spec (findClass_of_methodNamed hnamed) hkP hinit
  obtain ⟨vm₁, X₁, hstep₁⟩ := X.invokestatic hexec hown hlink hnamed hmethM hstatic hkP hinitP hy (g := g) hg (argsL := argsL) (rest := rest) (hlen _ hsigM) hstack hdg
  rcases hK m meth c ⟨T.setVm vm₁, locs, cells, slots⟩ { g with stack := rest } (.invokestatic index) mk argsL.toArray X₁ hg hsize hdg hW (X₁.named hnamed) (hpre vm₁ X₁.warmed) with ⟨v, B, X', hpost, hsteps⟩ | ⟨q, B, X', hpost, hsteps⟩
  · exact Or.inl ⟨v, vm₁, B, X₁.warmed, X', hpost, fun target h => hstep₁ _ fun acts => by rw [doInvoke_state]; exact hsteps.trans h⟩
  · exact Or.inr ⟨q, vm₁, B, X₁.warmed, X', hpost, hstep₁ _ fun acts => by rw [doInvoke_state]; exact hsteps⟩
end Calls
theorem vx_cls {s : State} {T : State} {vm₁ : Vm} {E : String} {k : ClassId} (hW : s.WarmedH vm₁) (h : (T.setVm vm₁).vm.findClass E = some k) : s.vm.findClass E = some k := by
  have h1 : vm₁.findClass E = some k := h
  rw [hW.alike.findClass] at h1
  exact h1
/-- the method's frame g, with q thrown over it -/
def vx_W (p : Program) (l : Launch) (e : Env) (R : Room) (s : State) (m : MethodId) (args : Array Value) (below : List Frame) (meth : Method) (c : Code) (H : Heap) (locs : List Loc) (cells slots : Nat) (Q : State → Prop) (g : JFrame) (q : Addr) : Prop :=
  ∀ T : State, T.heap = H → Stand p l e R s m args below meth c T locs cells slots → ∃ t, Steps p.tables e below ((T.setTop g).pushFrame (.throwing q)) t ∧ Q t
def vx_Run (p : Program) (l : Launch) (e : Env) (R : Room) (s : State) (m : MethodId) (args : Array Value) (below : List Frame) (meth : Method) (c : Code) (H : Heap) (locs : List Loc) (cells slots mc ms : Nat) (g : JFrame) (rest : List Value) (Qa : State → Outcome → State → Prop) (XC : String → State → State → Prop) (free : Addr → Prop) : Prop :=
  ∀ T : State, T.heap = H → Stand p l e R s m args below meth c T locs cells slots →
    (∃ (v : Option Value) (st₀ t T' : State) (L : List Loc), st₀.heap = H ∧ Stand p l e R s m args below meth c T' (locs ++ L) (cells + mc) (slots + ms) ∧ (∀ q ∈ L, free q.base) ∧ T'.heap = t.heap ∧ T'.vm = t.vm ∧ Qa st₀ (.returned v) t ∧
      Goes p e below T g T' { g with pc := g.pc + 3, stack := v.toList ++ rest }) ∨
    (∃ (q : Addr) (st₀ t T' : State) (L : List Loc) (E : String) (ce : Cell), st₀.heap = H ∧ Stand p l e R s m args below meth c T' (locs ++ L) (cells + mc) (slots + ms) ∧ (∀ z ∈ L, free z.base) ∧ T'.heap = t.heap ∧ T'.vm = t.vm ∧ XC E st₀ t ∧ t.heap[q]? = some ce ∧ ce.vm = .none ∧ s.vm.findClass E = some ce.cls ∧
      Steps p.tables e below (T.setTop g) ((T'.setTop { g with stack := rest }).pushFrame (.throwing q)))
def vx_X {S : Type} (px : S → Prop) (B : String → S → State → Prop) (A : Nat → Prop) : String → State → State → Prop := fun E st t => ∃ u : S, px u ∧ B E u t ∧ va_F A st t
section Runs
variable {p : Program} {l : Launch} {e : Env} {R : Room} {s : State} {m : MethodId} {args : Array Value} {below : List Frame} {meth : Method} {c : Code} {H : Heap} {locs : List Loc} {cells slots : Nat}
variable {y : MethodName} {bytes cc : ByteArray} {maxL nL mc ms n index : Nat} {ret : Option FieldType} {ws : List Cond} {rm : Room} {Pc : Array Value → State → Prop} {Qc : Array Value → State → Outcome → State → Prop} {XC : String → State → State → Prop} {free : Addr → Prop} {Ts : List Cond} {own C : String} {b : Addr} {As rest : List Value} {g : JFrame}
theorem vx_callBack (cb : CallB R s args own index y bytes maxL ret ws rm mc ms n) (hM : vx_Met l y ws rm Pc Qc XC mc ms free) (hbl : FrameBlind Pc) : vx_Back l R p e below s args y 3 8 (PreOf R mc ms Pc) (PostOf Qc mc ms free) (vx_Post XC mc ms free) := by
  obtain ⟨hrc, hrs, hfr, hlo, hws, hcw, -, hini, -⟩ := cb
  exact vx_back (bytes := bytes) (maxL := maxL) (ret := ret) hM hbl hrc hrs hfr hlo hws hcw (fun a' U hW => word_at hW (Or.inl (by first | rfl | simp [Cond.onTables, Cond.keeps, Cond.steady])) hini)
theorem vx_runV (S : CallFix p m c cc nL s args Ts own) (hM : vx_Met l y ws rm Pc Qc XC mc ms free) (cw : CallW R s args own C index y bytes maxL ret ws rm mc ms n) (hp : PreV s H C b Pc As)
    (hg : g.method = m) (hn : As.length = n) (hsize : g.locals.size = nL) (hstack : g.stack = As.reverse ++ .ref b :: rest) (hW : 2 * g.monitorRoom + (rest.map fun v => v.category).sum ≤ 8) (hdg : decode cc g.pc = .ok (.invokevirtual index, 3)) (hf : cells + mc ≤ R.cells ∧ slots + ms ≤ R.slots) :
    vx_Run p l e R s m args below meth c H locs cells slots mc ms g rest (Qc (Value.ref b :: As).toArray) XC free := by
  have hK : vx_Back l R p e below s args y 3 8 (PreOf R mc ms Pc) (PostOf Qc mc ms free) (vx_Post XC mc ms free) := vx_callBack cw.1 hM hp.1
  obtain ⟨⟨-, -, -, -, -, -, hcode, -, hy, hlen, hl⟩, hin, hse⟩ := cw
  obtain ⟨hx, hb, hml, ho, -⟩ := S
  obtain ⟨-, ⟨cellB, hcB, hoB, hclB⟩, hPc⟩ := hp
  intro T hT X
  rcases vx_callV X hx (C := C) (bytes := bytes) (maxL := maxL) (ret := ret) ho hl hin hse hcode hy hK (by rw [hT]; exact hcB) hoB hclB hg (hsize.trans hml.symm) (argsL := As) (rest := rest) (fun sig h => hn.trans (hlen sig h)) hstack hW (by rw [hb]; exact hdg)
    (fun vm₁ hW₁ => ⟨hf.1, hf.2, hPc (T.setVm vm₁) hT hW₁⟩) with ⟨v, vm₁, ⟨U', l2, c2, s2⟩, hW₁, X', ⟨g', mk, t, L, e1, e2, hq, h1, hL, h2, h3⟩, st⟩ | ⟨q, vm₁, ⟨U', l2, c2, s2⟩, hW₁, X', ⟨g', mk, t, L, E, ce, e1, e2, hq, hce, hcv, hcl, h1, hL, h2, h3⟩, st⟩
  · dsimp only [Pt.U, Pt.locs, Pt.cells, Pt.slots] at X' e1 e2 h1 h2 h3 st
    subst h1; subst h2; subst h3
    exact Or.inl ⟨v, (T.setVm vm₁).calling g' mk (Value.ref b :: As).toArray, t, U', L, hT, X', hL, e1, e2, hq, st⟩
  · dsimp only [Pt.U, Pt.locs, Pt.cells, Pt.slots] at X' e1 e2 h1 h2 h3 st hcl
    subst h1; subst h2; subst h3
    exact Or.inr ⟨q, (T.setVm vm₁).calling g' mk (Value.ref b :: As).toArray, t, U', L, E, ce, hT, X', hL, e1, e2, hq, hce, hcv, vx_cls hW₁ hcl, st⟩
theorem vx_runS (S : CallFix p m c cc nL s args Ts own) (hM : vx_Met l y ws rm Pc Qc XC mc ms free) (cw : CallB R s args own index y bytes maxL ret ws rm mc ms n ∧ (Cond.static y).before args s = true) (hp : PreS s H Pc As)
    (hg : g.method = m) (hn : As.length = n) (hsize : g.locals.size = nL) (hstack : g.stack = As.reverse ++ rest) (hW : 2 * g.monitorRoom + (rest.map fun v => v.category).sum ≤ 8) (hdg : decode cc g.pc = .ok (.invokestatic index, 3)) (hf : cells + mc ≤ R.cells ∧ slots + ms ≤ R.slots) :
    vx_Run p l e R s m args below meth c H locs cells slots mc ms g rest (Qc As.toArray) XC free := by
  have hK : vx_Back l R p e below s args y 3 8 (PreOf R mc ms Pc) (PostOf Qc mc ms free) (vx_Post XC mc ms free) := vx_callBack cw.1 hM hp.1
  obtain ⟨⟨-, -, -, -, -, -, hcode, hini, hy, hlen, hl⟩, hstt⟩ := cw
  obtain ⟨hx, hb, hml, ho, -⟩ := S
  intro T hT X
  rcases vx_callS X hx (bytes := bytes) (maxL := maxL) (ret := ret) ho hl hstt hini hcode hy hK hg (hsize.trans hml.symm) (argsL := As) (rest := rest) (fun sig h => hn.trans (hlen sig h)) hstack hW (by rw [hb]; exact hdg)
    (fun vm₁ hW₁ => ⟨hf.1, hf.2, hp.2 (T.setVm vm₁) hT hW₁⟩) with ⟨v, vm₁, ⟨U', l2, c2, s2⟩, hW₁, X', ⟨g', mk, t, L, e1, e2, hq, h1, hL, h2, h3⟩, st⟩ | ⟨q, vm₁, ⟨U', l2, c2, s2⟩, hW₁, X', ⟨g', mk, t, L, E, ce, e1, e2, hq, hce, hcv, hcl, h1, hL, h2, h3⟩, st⟩
  · dsimp only [Pt.U, Pt.locs, Pt.cells, Pt.slots] at X' e1 e2 h1 h2 h3 st
    subst h1; subst h2; subst h3
    exact Or.inl ⟨v, (T.setVm vm₁).calling g' mk As.toArray, t, U', L, hT, X', hL, e1, e2, hq, st⟩
  · dsimp only [Pt.U, Pt.locs, Pt.cells, Pt.slots] at X' e1 e2 h1 h2 h3 st hcl
    subst h1; subst h2; subst h3
    exact Or.inr ⟨q, (T.setVm vm₁).calling g' mk As.toArray, t, U', L, E, ce, hT, X', hL, e1, e2, hq, hce, hcv, vx_cls hW₁ hcl, st⟩
end Runs
section Rows
variable {p : Program} {l : Launch} {e : Env} {R : Room} {s : State} {m : MethodId} {args : Array Value} {below : List Frame} {meth : Method} {c : Code} {H : Heap} {locs : List Loc} {cells slots : Nat} {Q : State → Prop}
variable {mc ms : Nat} {free : Addr → Prop} {A0 A1 : Nat → Prop} {H0 : Heap} {a : Array Value} {pc : Nat} {ls : Array Slot} {st0 rest : List Value}
theorem vx_keep {st₀ t T' : State} {L : List Loc} (h0 : st₀.heap = H) (e1 : T'.heap = t.heap) (hS : va_S A0 H0 H locs) (hA : ∀ q, q < H.size → A1 q → A0 q) (hf : ∀ q, free q → A0 q) (hL : ∀ q ∈ L, free q.base) (hF : va_F A1 st₀ t) :
    H.size ≤ T'.heap.size ∧ (∀ q : Nat, q < H.size → ¬ A1 q → T'.heap[q]? = H[q]?) ∧ va_S A0 H0 T'.heap (locs ++ L) := by
  obtain ⟨hz, hk⟩ := hF
  rw [h0] at hz hk
  exact ⟨by rw [e1]; exact hz, fun q h1 h2 => by rw [e1]; exact hk q h1 h2,
    ⟨Nat.le_trans hS.1 (by rw [e1]; exact hz), fun q h1 h2 => by rw [e1, hk q (Nat.lt_of_lt_of_le h1 hS.1) (fun z => h2 (hA q (Nat.lt_of_lt_of_le h1 hS.1) z))]; exact hS.2.1 q h1 h2, fun q hq => by
      rcases List.mem_append.mp hq with h | h
      · exact hS.2.2 q h
      · exact hf _ (hL q h)⟩⟩
theorem vx_calli {S SX : Type} {post : Int32 → S → Prop} {px : SX → Prop} {B : S → State → Prop} {BX : String → SX → State → Prop} {AX : Nat → Prop} (hr : vx_Run p l e R s m args below meth c H locs cells slots mc ms (F0 m pc ls st0) rest (va_Qi post B A1 a) (vx_X px BX AX) free) (hS : va_S A0 H0 H locs) (hA : ∀ q, q < H.size → A1 q → A0 q) (hf : ∀ q, free q → A0 q) (hAX : ∀ q, q < H.size → AX q → A0 q)
    (kx : ∀ (E : String) (ce : Cell) (q9 : Addr) (u : SX) (t : State) (H1 : Heap) (locs1 : List Loc), t.heap = H1 → s.vm.Alike t.vm → px u → BX E u t → H.size ≤ H1.size → (∀ q : Nat, q < H.size → ¬ AX q → H1[q]? = H[q]?) → va_S A0 H0 H1 locs1 → H1[q9]? = some ce → ce.vm = .none → s.vm.findClass E = some ce.cls → vx_W p l e R s m args below meth c H1 locs1 (cells + mc) (slots + ms) Q (F0 m pc ls rest) q9)
    (kk : ∀ (r : Int32) (u : S) (t : State) (H1 : Heap) (locs1 : List Loc), t.heap = H1 → s.vm.Alike t.vm → post r u → B u t → H.size ≤ H1.size → (∀ q : Nat, q < H.size → ¬ A1 q → H1[q]? = H[q]?) → va_S A0 H0 H1 locs1 → W p l e R s m args below meth c H1 locs1 (cells + mc) (slots + ms) Q (F0 m (pc + 3) ls (.int r :: rest))) : W p l e R s m args below meth c H locs cells slots Q (F0 m pc ls st0) := by
  intro T hT X
  rcases hr T hT X with ⟨v, st₀, t, T', L, h0, X', hL, e1, e2, ⟨⟨r, u, hv, hp, hb⟩, hF⟩, st⟩ | ⟨q, st₀, t, T', L, E, ce, h0, X', hL, e1, e2, ⟨u, hp, hb, hF⟩, hce, hcv, hcl, st⟩
  · cases hv
    obtain ⟨k1, k2, k3⟩ := vx_keep h0 e1 hS hA hf hL hF
    obtain ⟨t2, a1, b1⟩ := kk r u t T'.heap (locs ++ L) e1.symm (by rw [← e2]; exact X'.warmed.alike) hp hb k1 k2 k3 T' rfl X'
    exact ⟨t2, st t2 a1, b1⟩
  · obtain ⟨k1, k2, k3⟩ := vx_keep h0 e1 hS hAX hf hL hF
    obtain ⟨t2, a1, b1⟩ := kx E ce q u t T'.heap (locs ++ L) e1.symm (by rw [← e2]; exact X'.warmed.alike) hp hb k1 k2 k3 (by rw [e1]; exact hce) hcv hcl T' rfl X'
    exact ⟨t2, st.trans a1, b1⟩
theorem vx_calll {S SX : Type} {post : Int64 → S → Prop} {px : SX → Prop} {B : S → State → Prop} {BX : String → SX → State → Prop} {AX : Nat → Prop} (hr : vx_Run p l e R s m args below meth c H locs cells slots mc ms (F0 m pc ls st0) rest (va_Ql post B A1 a) (vx_X px BX AX) free) (hS : va_S A0 H0 H locs) (hA : ∀ q, q < H.size → A1 q → A0 q) (hf : ∀ q, free q → A0 q) (hAX : ∀ q, q < H.size → AX q → A0 q)
    (kx : ∀ (E : String) (ce : Cell) (q9 : Addr) (u : SX) (t : State) (H1 : Heap) (locs1 : List Loc), t.heap = H1 → s.vm.Alike t.vm → px u → BX E u t → H.size ≤ H1.size → (∀ q : Nat, q < H.size → ¬ AX q → H1[q]? = H[q]?) → va_S A0 H0 H1 locs1 → H1[q9]? = some ce → ce.vm = .none → s.vm.findClass E = some ce.cls → vx_W p l e R s m args below meth c H1 locs1 (cells + mc) (slots + ms) Q (F0 m pc ls rest) q9)
    (kk : ∀ (r : Int64) (u : S) (t : State) (H1 : Heap) (locs1 : List Loc), t.heap = H1 → s.vm.Alike t.vm → post r u → B u t → H.size ≤ H1.size → (∀ q : Nat, q < H.size → ¬ A1 q → H1[q]? = H[q]?) → va_S A0 H0 H1 locs1 → W p l e R s m args below meth c H1 locs1 (cells + mc) (slots + ms) Q (F0 m (pc + 3) ls (.long r :: rest))) : W p l e R s m args below meth c H locs cells slots Q (F0 m pc ls st0) := by
  intro T hT X
  rcases hr T hT X with ⟨v, st₀, t, T', L, h0, X', hL, e1, e2, ⟨⟨r, u, hv, hp, hb⟩, hF⟩, st⟩ | ⟨q, st₀, t, T', L, E, ce, h0, X', hL, e1, e2, ⟨u, hp, hb, hF⟩, hce, hcv, hcl, st⟩
  · cases hv
    obtain ⟨k1, k2, k3⟩ := vx_keep h0 e1 hS hA hf hL hF
    obtain ⟨t2, a1, b1⟩ := kk r u t T'.heap (locs ++ L) e1.symm (by rw [← e2]; exact X'.warmed.alike) hp hb k1 k2 k3 T' rfl X'
    exact ⟨t2, st t2 a1, b1⟩
  · obtain ⟨k1, k2, k3⟩ := vx_keep h0 e1 hS hAX hf hL hF
    obtain ⟨t2, a1, b1⟩ := kx E ce q u t T'.heap (locs ++ L) e1.symm (by rw [← e2]; exact X'.warmed.alike) hp hb k1 k2 k3 (by rw [e1]; exact hce) hcv hcl T' rfl X'
    exact ⟨t2, st.trans a1, b1⟩
theorem vx_callf {S SX : Type} {post : UInt32 → S → Prop} {px : SX → Prop} {B : S → State → Prop} {BX : String → SX → State → Prop} {AX : Nat → Prop} (hr : vx_Run p l e R s m args below meth c H locs cells slots mc ms (F0 m pc ls st0) rest (va_Qf post B A1 a) (vx_X px BX AX) free) (hS : va_S A0 H0 H locs) (hA : ∀ q, q < H.size → A1 q → A0 q) (hf : ∀ q, free q → A0 q) (hAX : ∀ q, q < H.size → AX q → A0 q)
    (kx : ∀ (E : String) (ce : Cell) (q9 : Addr) (u : SX) (t : State) (H1 : Heap) (locs1 : List Loc), t.heap = H1 → s.vm.Alike t.vm → px u → BX E u t → H.size ≤ H1.size → (∀ q : Nat, q < H.size → ¬ AX q → H1[q]? = H[q]?) → va_S A0 H0 H1 locs1 → H1[q9]? = some ce → ce.vm = .none → s.vm.findClass E = some ce.cls → vx_W p l e R s m args below meth c H1 locs1 (cells + mc) (slots + ms) Q (F0 m pc ls rest) q9)
    (kk : ∀ (r : UInt32) (u : S) (t : State) (H1 : Heap) (locs1 : List Loc), t.heap = H1 → s.vm.Alike t.vm → post r u → B u t → H.size ≤ H1.size → (∀ q : Nat, q < H.size → ¬ A1 q → H1[q]? = H[q]?) → va_S A0 H0 H1 locs1 → W p l e R s m args below meth c H1 locs1 (cells + mc) (slots + ms) Q (F0 m (pc + 3) ls (.float r :: rest))) : W p l e R s m args below meth c H locs cells slots Q (F0 m pc ls st0) := by
  intro T hT X
  rcases hr T hT X with ⟨v, st₀, t, T', L, h0, X', hL, e1, e2, ⟨⟨r, u, hv, hp, hb⟩, hF⟩, st⟩ | ⟨q, st₀, t, T', L, E, ce, h0, X', hL, e1, e2, ⟨u, hp, hb, hF⟩, hce, hcv, hcl, st⟩
  · cases hv
    obtain ⟨k1, k2, k3⟩ := vx_keep h0 e1 hS hA hf hL hF
    obtain ⟨t2, a1, b1⟩ := kk r u t T'.heap (locs ++ L) e1.symm (by rw [← e2]; exact X'.warmed.alike) hp hb k1 k2 k3 T' rfl X'
    exact ⟨t2, st t2 a1, b1⟩
  · obtain ⟨k1, k2, k3⟩ := vx_keep h0 e1 hS hAX hf hL hF
    obtain ⟨t2, a1, b1⟩ := kx E ce q u t T'.heap (locs ++ L) e1.symm (by rw [← e2]; exact X'.warmed.alike) hp hb k1 k2 k3 (by rw [e1]; exact hce) hcv hcl T' rfl X'
    exact ⟨t2, st.trans a1, b1⟩
theorem vx_calld {S SX : Type} {post : UInt64 → S → Prop} {px : SX → Prop} {B : S → State → Prop} {BX : String → SX → State → Prop} {AX : Nat → Prop} (hr : vx_Run p l e R s m args below meth c H locs cells slots mc ms (F0 m pc ls st0) rest (va_Qd post B A1 a) (vx_X px BX AX) free) (hS : va_S A0 H0 H locs) (hA : ∀ q, q < H.size → A1 q → A0 q) (hf : ∀ q, free q → A0 q) (hAX : ∀ q, q < H.size → AX q → A0 q)
    (kx : ∀ (E : String) (ce : Cell) (q9 : Addr) (u : SX) (t : State) (H1 : Heap) (locs1 : List Loc), t.heap = H1 → s.vm.Alike t.vm → px u → BX E u t → H.size ≤ H1.size → (∀ q : Nat, q < H.size → ¬ AX q → H1[q]? = H[q]?) → va_S A0 H0 H1 locs1 → H1[q9]? = some ce → ce.vm = .none → s.vm.findClass E = some ce.cls → vx_W p l e R s m args below meth c H1 locs1 (cells + mc) (slots + ms) Q (F0 m pc ls rest) q9)
    (kk : ∀ (r : UInt64) (u : S) (t : State) (H1 : Heap) (locs1 : List Loc), t.heap = H1 → s.vm.Alike t.vm → post r u → B u t → H.size ≤ H1.size → (∀ q : Nat, q < H.size → ¬ A1 q → H1[q]? = H[q]?) → va_S A0 H0 H1 locs1 → W p l e R s m args below meth c H1 locs1 (cells + mc) (slots + ms) Q (F0 m (pc + 3) ls (.double r :: rest))) : W p l e R s m args below meth c H locs cells slots Q (F0 m pc ls st0) := by
  intro T hT X
  rcases hr T hT X with ⟨v, st₀, t, T', L, h0, X', hL, e1, e2, ⟨⟨r, u, hv, hp, hb⟩, hF⟩, st⟩ | ⟨q, st₀, t, T', L, E, ce, h0, X', hL, e1, e2, ⟨u, hp, hb, hF⟩, hce, hcv, hcl, st⟩
  · cases hv
    obtain ⟨k1, k2, k3⟩ := vx_keep h0 e1 hS hA hf hL hF
    obtain ⟨t2, a1, b1⟩ := kk r u t T'.heap (locs ++ L) e1.symm (by rw [← e2]; exact X'.warmed.alike) hp hb k1 k2 k3 T' rfl X'
    exact ⟨t2, st t2 a1, b1⟩
  · obtain ⟨k1, k2, k3⟩ := vx_keep h0 e1 hS hAX hf hL hF
    obtain ⟨t2, a1, b1⟩ := kx E ce q u t T'.heap (locs ++ L) e1.symm (by rw [← e2]; exact X'.warmed.alike) hp hb k1 k2 k3 (by rw [e1]; exact hce) hcv hcl T' rfl X'
    exact ⟨t2, st.trans a1, b1⟩
theorem vx_callv {S SX : Type} {post : S → Prop} {px : SX → Prop} {B : S → State → Prop} {BX : String → SX → State → Prop} {AX : Nat → Prop} (hr : vx_Run p l e R s m args below meth c H locs cells slots mc ms (F0 m pc ls st0) rest (va_Qv post B A1 a) (vx_X px BX AX) free) (hS : va_S A0 H0 H locs) (hA : ∀ q, q < H.size → A1 q → A0 q) (hf : ∀ q, free q → A0 q) (hAX : ∀ q, q < H.size → AX q → A0 q)
    (kx : ∀ (E : String) (ce : Cell) (q9 : Addr) (u : SX) (t : State) (H1 : Heap) (locs1 : List Loc), t.heap = H1 → s.vm.Alike t.vm → px u → BX E u t → H.size ≤ H1.size → (∀ q : Nat, q < H.size → ¬ AX q → H1[q]? = H[q]?) → va_S A0 H0 H1 locs1 → H1[q9]? = some ce → ce.vm = .none → s.vm.findClass E = some ce.cls → vx_W p l e R s m args below meth c H1 locs1 (cells + mc) (slots + ms) Q (F0 m pc ls rest) q9)
    (kk : ∀ (u : S) (t : State) (H1 : Heap) (locs1 : List Loc), t.heap = H1 → s.vm.Alike t.vm → post u → B u t → H.size ≤ H1.size → (∀ q : Nat, q < H.size → ¬ A1 q → H1[q]? = H[q]?) → va_S A0 H0 H1 locs1 → W p l e R s m args below meth c H1 locs1 (cells + mc) (slots + ms) Q (F0 m (pc + 3) ls (rest))) : W p l e R s m args below meth c H locs cells slots Q (F0 m pc ls st0) := by
  intro T hT X
  rcases hr T hT X with ⟨v, st₀, t, T', L, h0, X', hL, e1, e2, ⟨⟨u, hv, hp, hb⟩, hF⟩, st⟩ | ⟨q, st₀, t, T', L, E, ce, h0, X', hL, e1, e2, ⟨u, hp, hb, hF⟩, hce, hcv, hcl, st⟩
  · cases hv
    obtain ⟨k1, k2, k3⟩ := vx_keep h0 e1 hS hA hf hL hF
    obtain ⟨t2, a1, b1⟩ := kk u t T'.heap (locs ++ L) e1.symm (by rw [← e2]; exact X'.warmed.alike) hp hb k1 k2 k3 T' rfl X'
    exact ⟨t2, st t2 a1, b1⟩
  · obtain ⟨k1, k2, k3⟩ := vx_keep h0 e1 hS hAX hf hL hF
    obtain ⟨t2, a1, b1⟩ := kx E ce q u t T'.heap (locs ++ L) e1.symm (by rw [← e2]; exact X'.warmed.alike) hp hb k1 k2 k3 (by rw [e1]; exact hce) hcv hcl T' rfl X'
    exact ⟨t2, st.trans a1, b1⟩
/-- caught by the row x of this method's table; the rows ahead don't take it -/
theorem vx_catch {own name : String} {E : String} {ce : Cell} {q : Addr} (hown : s.vm.findClass own = some m.cls) (pre : List ExceptionTableEntry) (x : ExceptionTableEntry) (suf : List ExceptionTableEntry) (hsplit : c.exceptionTable.toList = pre ++ x :: suf)
    (hpass : ∀ z ∈ pre, covers z pc = false ∨ (z.catchType ≠ 0 ∧ ∃ nm : String, (Cond.classLink own z.catchType nm).before args s = true ∧ va_Nc E nm s)) (hx : covers x pc = true) (h0 : x.catchType ≠ 0)
    (hlink : (Cond.classLink own x.catchType name).before args s = true) (hcast : (Cond.castable E name).before args s = true) (hcell : H[q]? = some ce) (hv : ce.vm = .none) (hcl : s.vm.findClass E = some ce.cls)
    (kk : W p l e R s m args below meth c H locs cells slots Q (F0 m x.handlerPc ls [.ref q])) : vx_W p l e R s m args below meth c H locs cells slots Q (F0 m pc ls rest) q := by
  intro T hT X
  have hpl : e.platform.magicAccessors = ({} : Platform).magicAccessors := by rw [X.admits.platform]
  obtain ⟨c3, c4, hc3, hc4, hasg⟩ := Cond.castable_spec hcast
  cases Option.some.inj (hc3.symm.trans hcl)
  obtain ⟨c5, hc5, hcl5⟩ := Cond.classLink_spec hown hlink e.platform hpl
  cases Option.some.inj (hc4.symm.trans hc5)
  obtain ⟨vm', X', st⟩ := X.thenCaughtThrough q (g := F0 m pc ls rest) rfl (Steps.refl _) (by rw [hT]; exact hcell) (by rw [hv]; rfl) (by obtain ⟨k9, h9, -⟩ := Vm.findClass_spec hcl; exact ⟨k9, h9⟩) pre x suf hsplit
    (fun z hz => by
      rcases hpass z hz with h | ⟨hz0, nm, hl1, hn1⟩
      · exact Or.inl h
      · obtain ⟨c6, hc6, hcl6⟩ := Cond.classLink_spec hown hl1 e.platform hpl
        obtain ⟨a8, b8, h1, h2, h3⟩ := hn1
        cases Option.some.inj (h1.symm.trans hcl)
        cases Option.some.inj (h2.symm.trans hc6)
        exact Or.inr ⟨hz0, _, hcl6, h3⟩) hx (Or.inr ⟨h0, c4, hcl5, hasg⟩)
  obtain ⟨t, a1, b1⟩ := kk (T.setVm vm') hT X'
  exact ⟨t, st.trans a1, b1⟩
end Rows
section Ends
variable {p : Program} {l : Launch} {e : Env} {R : Room} {s : State} {m : MethodId} {args : Array Value} {below : List Frame} {meth : Method} {c : Code} {H : Heap} {locs : List Loc} {cells slots : Nat} {Q : State → Prop}
variable {mc ms : Nat} {free : Addr → Prop} {A0 A1 : Nat → Prop} {H0 : Heap} {a : Array Value} {ls : Array Slot} {st0 rest : List Value}
variable {Qc : Array Value → State → Outcome → State → Prop} {XC : String → State → State → Prop}
/-- what a body that may throw owes at its end -/
def vx_MQ (below : List Frame) (Qc : Array Value → State → Outcome → State → Prop) (XC : String → State → State → Prop) (a : Array Value) (s : State) (mc ms : Nat) (free : Addr → Prop) : State → Prop := fun t =>
  ∃ o, t.status = .running ∧ Ended t below o ∧ vx_Q Qc XC mc ms free a s o t
theorem vx_ret {g : JFrame} {mc ms : Nat} (k : W p l e R s m args below meth c H locs cells slots (MQ below Qc args s mc ms free) g) : W p l e R s m args below meth c H locs cells slots (vx_MQ below Qc XC args s mc ms free) g := by
  intro T hT X
  obtain ⟨t, a1, o, b1, b2, b3, b4⟩ := k T hT X
  exact ⟨t, a1, o, b1, b2, Or.inl ⟨b3, b4⟩⟩
/-- not caught here: it goes on to the caller -/
theorem vx_widen {g : JFrame} {q : Addr} {k n : Nat} (h1 : cells ≤ k) (h2 : slots ≤ n) (kk : vx_W p l e R s m args below meth c H locs k n Q g q) : vx_W p l e R s m args below meth c H locs cells slots Q g q := fun T hT X => kk T hT (stand_widen X h1 h2)
theorem vx_out {pc : Nat} {E : String} {ce : Cell} {q : Addr} {mc ms : Nat} (hout : ∀ x ∈ c.exceptionTable.toList, covers x pc = false) (hlocks : meth.locks = false) (hcell : H[q]? = some ce) (hv : ce.vm = .none) (hcl : s.vm.findClass E = some ce.cls)
    (hx : ∀ t : State, t.heap = H → s.vm.Alike t.vm → XC E s t) (hf : ∀ z ∈ locs, free z.base) (hc : cells ≤ mc) (hs : slots ≤ ms) :
    vx_W p l e R s m args below meth c H locs cells slots (vx_MQ below Qc XC args s mc ms free) (F0 m pc ls rest) q := by
  intro T hT X
  obtain ⟨st1, hrun, hend, hW, hsm⟩ := X.leaveThrown q (g := F0 m pc ls rest) rfl rfl rfl hout hlocks
  have hcell9 : (T.setFrames (.throwing q :: below)).heap[q]? = some ce := by
    show T.heap[q]? = some ce
    rw [hT]; exact hcell
  exact ⟨_, st1, .threw q, hrun, hend, Or.inr ⟨q, rfl, E, ce, locs, hx _ hT hW.alike, hcell9, hv, hcl, hW, hsm.mono hc hs, hf⟩⟩
theorem vx_frame {U : State} {k n : Nat} (h : s.sameButNew ({ U with vm := s.vm } : State) locs k n) : s.heap.size ≤ U.heap.size ∧ ∀ q : Nat, q < s.heap.size → (∀ z ∈ locs, z.base ≠ q) → U.heap[q]? = s.heap[q]? := by
  obtain ⟨-, h2, -, -, -, h6⟩ := h
  refine ⟨h2, fun q hq hz => ?_⟩
  obtain ⟨c9, e1, e2, e3, e4⟩ := h6 q _ (Array.getElem?_eq_getElem hq)
  have hs : c9.slots = (s.heap[q]).slots := Array.ext_getElem? fun i => e4 i fun hm => hz _ hm rfl
  have h9 : c9 = s.heap[q] := by
    rw [hs] at e2
    exact e2
  have e5 : U.heap[q]? = some c9 := e1
  rw [e5, h9, Array.getElem?_eq_getElem hq]
/-- the words of a throw but the four that speak of the heap -/
def vx_no (w : Cond) : Bool := decide (w ≠ .isRef (.static Bundle.tN "UNASSIGNED_STACK" Bundle.steD)) && decide (w ≠ .isRef (.static Bundle.tN "SUPPRESSED_SENTINEL" Bundle.listD)) && decide (w ≠ .laysStatic Bundle.tN "UNASSIGNED_STACK" Bundle.steD) && decide (w ≠ .laysStatic Bundle.tN "SUPPRESSED_SENTINEL" Bundle.listD)
def vx_at0 (own : String) (ic : Nat) (X : String) (names : List String) : List Cond := (Bundle.ownAtoms0 own ic X names).filter vx_no
def vx_atS (own : String) (ic : Nat) (X : String) (names : List String) : List Cond := (Bundle.ownAtoms own ic X names).filter vx_no
/-- a word that the tables alone decide, or a good one -/
def vx_ot (w : Cond) : Bool := w.onTables || goodWord w
theorem vx_ot_at {args a' : Array Value} {s U : State} {w : Cond} (hW : s.WarmedH U.vm) (hvm : s.vm = U.vm) (hg : vx_ot w = true) (h : w.before args s = true) : w.before a' U = true := by
  simp only [vx_ot, Bool.or_eq_true] at hg
  rcases hg with hg | hg
  · exact va_tabs hg hvm h
  · exact word_at hW (good_of_word hg) h
/-- a list's words: the good ones out of the method's own list, the others by premises of their own -/
theorem vx_hat {args : Array Value} {s : State} {L B : List Cond} (h1 : ∀ w ∈ L.filter goodWord, w.before args s = true) (h2 : ∀ w ∈ L.filter (fun w => !goodWord w), w ∈ B) (h3 : ∀ w ∈ B, w.before args s = true) : ∀ w ∈ L, w.before args s = true := by
  intro w hw
  by_cases g : goodWord w = true
  · exact h1 w (List.mem_filter.mpr ⟨hw, g⟩)
  · refine h3 w (h2 w (List.mem_filter.mpr ⟨hw, ?_⟩))
    show (!goodWord w) = true
    cases hgw : goodWord w
    · rfl
    · exact absurd hgw g
theorem vx_c {args : Array Value} {s : State} {w : Cond} {B : List Cond} (h : w.before args s = true) (t : ∀ w ∈ B, w.before args s = true) : ∀ w' ∈ w :: B, w'.before args s = true := fun w' h' => (List.mem_cons.mp h').elim (fun e => by rw [e]; exact h) (t w')
theorem vx_n {args : Array Value} {s : State} : ∀ w ∈ ([] : List Cond), w.before args s = true := fun _ h => nomatch h
theorem vx_own {args : Array Value} {s : State} {L : List Cond} (h1 : ∀ w ∈ L.filter vx_no, w.before args s = true)
    (hU : (Cond.isRef (.static Bundle.tN "UNASSIGNED_STACK" Bundle.steD)).before args s = true) (hN : (Cond.isRef (.static Bundle.tN "SUPPRESSED_SENTINEL" Bundle.listD)).before args s = true)
    (lU : (Cond.laysStatic Bundle.tN "UNASSIGNED_STACK" Bundle.steD).before args s = true) (lN : (Cond.laysStatic Bundle.tN "SUPPRESSED_SENTINEL" Bundle.listD).before args s = true) : ∀ w ∈ L, w.before args s = true := by
  intro w hw
  by_cases e1 : w = .isRef (.static Bundle.tN "UNASSIGNED_STACK" Bundle.steD)
  · rw [e1]; exact hU
  · by_cases e2 : w = .isRef (.static Bundle.tN "SUPPRESSED_SENTINEL" Bundle.listD)
    · rw [e2]; exact hN
    · by_cases e3 : w = .laysStatic Bundle.tN "UNASSIGNED_STACK" Bundle.steD
      · rw [e3]; exact lU
      · by_cases e4 : w = .laysStatic Bundle.tN "SUPPRESSED_SENTINEL" Bundle.listD
        · rw [e4]; exact lN
        · exact h1 w (List.mem_filter.mpr ⟨hw, by unfold vx_no; rw [decide_eq_true e1, decide_eq_true e2, decide_eq_true e3, decide_eq_true e4]; rfl⟩)
/-- where a static field lies, its class's statics cell in H -/
def vx_L (C n d : String) (A : Nat → Prop) (U : State) (H : Heap) : Prop := ∃ (c : ClassId) (k : Class) (i : Nat) (f : Field) (a : Nat) (cell : Cell), U.vm.findClass C = some c ∧ U.fieldFound? C n d = some (c, k, i, f) ∧ f.isStatic = true ∧ k.statics = some a ∧ H[a]? = some cell ∧ cell.vm.isStatics = true ∧ cell.cls = c ∧ f.slot < cell.slots.size ∧ k.staticTypes[f.slot]? = some f.type ∧ ¬ A a
theorem vx_L.moved {C n d : String} {A : Nat → Prop} {u U : State} {H : Heap} (hvm : u.vm.Alike U.vm) (h : vx_L C n d A u H) : vx_L C n d A U H := by
  obtain ⟨c, k, i, f, a, cell, h1, h2, h3, h4, h5, h6, h7, h8, h9, h10⟩ := h
  obtain ⟨k', hi', he⟩ := State.fieldFound?_setVm hvm h2
  exact ⟨c, k', i, f, a, cell, by rw [hvm.findClass]; exact h1, hi', h3, by rw [he]; exact h4, h5, h6, h7, h8, by rw [he]; exact h9, h10⟩
theorem vx_L.kept {C n d : String} {A : Nat → Prop} {U : State} {H H1 : Heap} (h : vx_L C n d A U H) (hq : ∀ a : Nat, a < H.size → ¬ A a → H1[a]? = H[a]?) : vx_L C n d A U H1 := by
  obtain ⟨c, k, i, f, a, cell, h1, h2, h3, h4, h5, h6, h7, h8, h9, h10⟩ := h
  exact ⟨c, k, i, f, a, cell, h1, h2, h3, h4, by rw [hq a (Array.getElem?_eq_some_iff.mp h5).1 h10]; exact h5, h6, h7, h8, h9, h10⟩
theorem vx_L.narrow {C n d : String} {A B : Nat → Prop} {U : State} {H : Heap} (h : vx_L C n d A U H) (hAB : ∀ q, B q → A q) : vx_L C n d B U H := by
  obtain ⟨c, k, i, f, a, cell, h1, h2, h3, h4, h5, h6, h7, h8, h9, h10⟩ := h
  exact ⟨c, k, i, f, a, cell, h1, h2, h3, h4, h5, h6, h7, h8, h9, fun z => h10 (hAB _ z)⟩
theorem vx_L.word {C n d : String} {A : Nat → Prop} {s : State} {args : Array Value} (h : vx_L C n d A s s.heap) : (Cond.laysStatic C n d).before args s = true := by
  obtain ⟨c, k, i, f, a, cell, h1, h2, h3, h4, h5, h6, h7, h8, h9, -⟩ := h
  show (Cond.laysStatic C n d).holds args s none s [] = true
  exact Cond.laysStatic_of h1 h2 h3 h4 h5 h6 h7 h8 h9
/-- .. and what it holds: null or some reference -/
def vx_Zq (C n d : String) (A : Nat → Prop) (U : State) (H : Heap) : Prop := va_Zq C n d A U H ∧ vx_L C n d A U H
theorem vx_Zq.moved {C n d : String} {A : Nat → Prop} {u U : State} {H : Heap} (hvm : u.vm.Alike U.vm) (h : vx_Zq C n d A u H) : vx_Zq C n d A U H := ⟨va_Zq.moved hvm h.1, vx_L.moved hvm h.2⟩
theorem vx_Zq.kept {C n d : String} {A : Nat → Prop} {U : State} {H H1 : Heap} (h : vx_Zq C n d A U H) (hq : ∀ a : Nat, a < H.size → ¬ A a → H1[a]? = H[a]?) : vx_Zq C n d A U H1 := ⟨va_Zq.kept h.1 hq, vx_L.kept h.2 hq⟩
theorem vx_Zq.narrow {C n d : String} {A B : Nat → Prop} {U : State} {H : Heap} (h : vx_Zq C n d A U H) (hAB : ∀ q, B q → A q) : vx_Zq C n d B U H := ⟨va_Zq.narrow h.1 hAB, vx_L.narrow h.2 hAB⟩
theorem vx_Zqof {args : Array Value} {s : State} {C n d : String} {A : Nat → Prop} (hl : (Cond.laysStatic C n d).before args s = true) (hini : (Cond.initialized C).before args s = true) (h : (Cond.isRef (.static C n d)).before args s = true) (hA : ∀ a : Nat, a < s.heap.size → ¬ A a) : vx_Zq C n d A s s.heap := by
  refine ⟨va_Zqof hl hini h hA, ?_⟩
  obtain ⟨c, k, i, f, a, cell, h1, h2, h3, h4, h5, h6, h7, h8, h9⟩ := Cond.laysStatic_spec hl
  exact ⟨c, k, i, f, a, cell, h1, h2, h3, h4, h5, h6, h7, h8, h9, hA a (Array.getElem?_eq_some_iff.mp h5).1⟩
theorem vx_isRef {C n d : String} {v : Value} {A : Nat → Prop} {s : State} {args : Array Value} (h : va_Z C n d v A s s.heap) (hv : v.isRef = true) : (Cond.isRef (.static C n d)).before args s = true := by
  obtain ⟨cf, kf, fi, f, a, cell, h1, h2, h3, h4, h5, h6, h7, -⟩ := h
  have he : (Term.static C n d).eval args s none [] s = some v := by
    simp [Term.eval, State.fieldNamed?, h1, h2, h4, h5, h6, h7]
  simp only [Cond.before, Cond.holds, Cond.value, he]
  cases v <;> simp_all [Value.isRef]
theorem vx_isRefq {C n d : String} {A : Nat → Prop} {s : State} {args : Array Value} (h : va_Zq C n d A s s.heap) : (Cond.isRef (.static C n d)).before args s = true := by
  rcases h with h | ⟨t, h⟩
  · exact vx_isRef h rfl
  · exact vx_isRef h rfl
/-- the same frame, seen from here: as if the method were called anew in this heap -/
theorem vx_rebase {T : State} (X : Stand p l e R s m args below meth c T locs cells slots) {R' : Room} (hf : R'.frames ≤ R.frames) (hl : R'.locals ≤ R.locals) (hc : cells + R'.cells ≤ R.cells) (hs : slots + R'.slots ≤ R.slots) :
    Stand p l e R' ((T.setVm s.vm).setFrames (.invoking m args :: below)) m args below meth c T [] 0 0 := by
  have htop : (T.setVm s.vm).topJava?.isSome := X.here.top
  have hF : ((T.setVm s.vm).setFrames (.invoking m args :: below)).frames = .invoking m args :: below := State.frames_setFrames _ (State.cur_lt_of_top htop)
  obtain ⟨g₀, hg0⟩ := Option.isSome_iff_exists.mp htop
  obtain ⟨r, hr⟩ := State.topJava?_eq_some.mp hg0
  have hl9 : e.platform.stackLimits (T.setVm s.vm).me = e.platform.stackLimits s.me := X.limits
  have hb9 : (T.setVm s.vm).me.stackBytes = s.me.stackBytes := X.bytes
  refine ⟨X.admits, X.cas, X.clock, hF, ?_, X.hears, X.method, X.code, X.here, X.tail, X.warmed, ?_, ?_, ?_⟩
  · have h := X.room
    have hU : ((T.setVm s.vm).setFrames (.invoking m args :: below)).localsInUse = s.localsInUse := by
      rw [State.localsInUse_invoking hF (meth := meth) (c := c) X.method X.code, State.localsInUse_invoking X.frames X.method X.code]
    simp only [State.hasRoom, Bool.and_eq_true, decide_eq_true_eq] at h ⊢
    obtain ⟨⟨⟨⟨h1, h2, h3, h4, h5, h6⟩, h7⟩, h8⟩, h9⟩ := h
    rw [X.frames, List.length_cons] at h2 h3
    have q1 := X.heapSize
    have q2 := X.used
    simp only [hF, hU, List.length_cons, State.stackLimits_setFrames, State.stackBytes_setFrames, hl9, hb9]
    refine ⟨⟨⟨⟨by omega, by omega, by omega, by omega, by omega, h6⟩, ?_⟩, ?_⟩, X.book⟩
    · show T.heap.size + R'.cells ≤ e.platform.maxCells
      omega
    · show T.slotsUsed + R'.slots ≤ e.platform.maxSlots
      omega
  · rw [State.stackLimits_setFrames]; rfl
  · rw [State.stackBytes_setFrames]; rfl
  · refine ⟨?_, Nat.le_refl _, Nat.le_refl _, ?_, ?_, fun a c9 h9 => ⟨c9, h9, rfl, rfl, fun _ _ => rfl⟩⟩
    · obtain ⟨t, ht, -⟩ := State.frames_cons hr
      show T.setVm s.vm = { ((T.setVm s.vm).setFrames (.invoking m args :: below)).setFrames (T.setVm s.vm).frames with heap := T.heap, slotsUsed := T.slotsUsed }
      rw [State.setFrames_setFrames, State.setFrames_self ht]
      rfl
    · show T.slotsUsed = T.slotsUsed + ((T.heap.toList.drop T.heap.size).map (·.slots.size)).sum
      rw [List.drop_eq_nil_of_le (Nat.le_of_eq Array.length_toList)]
      rfl
    · show ((T.heap.toList.drop T.heap.size).map (·.slots.size)).sum ≤ 0
      rw [List.drop_eq_nil_of_le (Nat.le_of_eq Array.length_toList)]
      exact Nat.le_refl _
/-- 'throw new E()': new; dup; invokespecial; athrow -/
theorem vx_throw0 {cc : ByteArray} {pc : Nat} (hexec : p.tables.exec = Jvm.exec) (hb : c.code = cc) (hl : l.stackTraces = false) {own cls : String} {names : List String} {ik ic mc ms : Nat} {A : Nat → Prop}
    (hown : s.vm.findClass own = some m.cls) (hcls : Bundle.fit cls = true) (hnames : ∀ n ∈ names, Bundle.fit n = true)
    (hk : (Cond.classLink own ik cls).before args s = true) (hini : (Cond.initialized cls).before args s = true) (hat : ∀ w ∈ vx_at0 own ic cls names, w.before args s = true)
    (hgood : ∀ w ∈ Cond.classLink own ik cls :: Cond.initialized cls :: vx_at0 own ic cls names, vx_ot w = true)
    (hU : vx_Zq Bundle.tN "UNASSIGNED_STACK" Bundle.steD A s s.heap) (hN : vx_Zq Bundle.tN "SUPPRESSED_SENTINEL" Bundle.listD A s s.heap) (hS : va_S A s.heap H locs) (hsize : ls.size = c.maxLocals)
    (d0 : decode cc pc = .ok (.new ik, 3)) (d3 : decode cc (pc + 3) = .ok (.dup, 1)) (d4 : decode cc (pc + 4) = .ok (.invokespecial ic, 3)) (d7 : decode cc (pc + 7) = .ok (.athrow, 1))
    (hout : ∀ x ∈ c.exceptionTable.toList, covers x (pc + 7) = false)
    (hRframes : names.length + 3 < R.frames) (hRlocals : (rest.map fun v => v.category).sum + (13 * (names.length + 1) + 42) ≤ R.locals) (hRcells : cells + 1 ≤ R.cells) (hRslots : slots + 6 ≤ R.slots) (hlocks : meth.locks = false)
    (hx : ∀ t : State, s.vm.Alike t.vm → H.size ≤ t.heap.size → (∀ q : Nat, q < H.size → t.heap[q]? = H[q]?) → XC cls s t)
    (hf : ∀ z ∈ locs, free z.base) (hc : cells + 1 ≤ mc) (hs : slots + 6 ≤ ms) :
    W p l e R s m args below meth c H locs cells slots (vx_MQ below Qc XC args s mc ms free) (F0 m pc ls rest) := by
  intro T hT X
  have htr : e.platform.stackTraces = false := (show e.platform.stackTraces = l.stackTraces by rw [X.admits.platform]).trans hl
  have Y := vx_rebase X (R' := { frames := R.frames, locals := R.locals, cells := 1, slots := 6 }) (Nat.le_refl _) (Nat.le_refl _) hRcells hRslots
  obtain ⟨s', hA⟩ : ∃ z, z = (T.setVm s.vm).setFrames (.invoking m args :: below) := ⟨_, rfl⟩
  rw [← hA] at Y
  have hvm : s'.vm = s.vm := by rw [hA]; rfl
  have hhp : s'.heap = H := by rw [hA]; exact hT
  have hW0 : s.WarmedH s'.vm := by rw [hvm]; exact State.WarmedH.refl s
  have hat' : ∀ w ∈ vx_at0 own ic cls names, w.before args s' = true := fun w hw => vx_ot_at hW0 hvm.symm (hgood w (List.mem_cons_of_mem _ (List.mem_cons_of_mem _ hw))) (hat w hw)
  have hk' : (Cond.classLink own ik cls).before args s' = true := vx_ot_at hW0 hvm.symm (hgood _ List.mem_cons_self) hk
  have hini' : (Cond.initialized cls).before args s' = true := vx_ot_at hW0 hvm.symm (hgood _ (List.mem_cons_of_mem _ List.mem_cons_self)) hini
  have hU' : vx_Zq Bundle.tN "UNASSIGNED_STACK" Bundle.steD A s' s'.heap := by rw [hhp]; exact vx_Zq.moved hW0.alike (hU.kept hS.2.1)
  have hN' : vx_Zq Bundle.tN "SUPPRESSED_SENTINEL" Bundle.listD A s' s'.heap := by rw [hhp]; exact vx_Zq.moved hW0.alike (hN.kept hS.2.1)
  have h : ∀ w ∈ Bundle.ownAtoms0 own ic cls names, w.before args s' = true := vx_own hat' (vx_isRefq hU'.1) (vx_isRefq hN'.1) hU'.2.word hN'.2.word
  have hown' : s'.vm.findClass own = some m.cls := by rw [hvm]; exact hown
  have hins : (Cond.instantiable cls 6).before args s' = true := h _ (by simp [Bundle.ownAtoms0])
  obtain ⟨vm₁, cX, kX, hfX, hkX, -, -, X₁, st1⟩ := Y.newCold hexec (own := own) (C := cls) (index := ik) (n := 6) hown' hk' hins hini'
    (g := F0 m pc ls rest) rfl (by rw [hb]; exact d0) (Nat.le_refl _) (Nat.le_refl _)
  generalize hT1 : (T.setVm vm₁).pushCell { cls := cX, slots := kX.instanceTypes.map defaultValue, vm := .none } = T1 at X₁ st1
  have hcat : (Value.ref T.heap.size).category = 1 := rfl
  have hcellA : T1.heap[T.heap.size]? = some (freshCell cX kX) := by rw [← hT1]; exact State.heap_pushCell_size _ _
  have d3' : decode c.code (pc + 3) = .ok (.dup, 1) := by rw [hb]; exact d3
  obtain ⟨U, hsteps, hrun, hend, hW, hsame, ce, hce, hO⟩ := X₁.ctorThrow0 hexec htr (own := own) (cls := cls) (names := names) (ic := ic) hown' hcls hnames h (fun x hx => nomatch hx) hfX hkX hcellA (by rw [hhp, hT]; exact Nat.le_refl _)
    (g := { method := m, pc := pc + 4, locals := ls, stack := .ref T.heap.size :: .ref T.heap.size :: rest, locked := none }) rfl hsize rfl rfl (rest := rest) rfl
    (by rw [hb]; exact d4) (by rw [hb]; exact d7) hout hRframes (by simp only [List.map_cons, List.sum_cons, hcat]; omega) hlocks
  obtain ⟨f1, f2⟩ := vx_frame hsame
  rw [hhp] at f1 f2
  have hWs : s.WarmedH U.vm := State.WarmedH.trans hW0 hW
  have hcl : s.vm.findClass cls = some ce.cls := by
    have h9 := hO.cls
    rw [hvm] at h9
    exact h9
  have hall : s.sameButNew ({ U with vm := s.vm } : State) locs mc ms := by
    subst hA
    obtain ⟨e1, e2⟩ := hsame
    rw [State.setFrames_setFrames] at e1
    have h2 : (T.setVm s.vm).sameButNew ({ U with vm := s.vm } : State) [] (0 + 1) (0 + 6) := ⟨e1, e2⟩
    have h3 := X.same.trans h2
    rw [List.append_nil] at h3
    exact h3.mono hc hs
  refine ⟨U, ?_, .threw T.heap.size, hrun, hend, Or.inr ⟨T.heap.size, rfl, cls, ce, locs, hx U hWs.alike f1 (fun q hq => f2 q hq (fun z hz => nomatch hz)), hce, hO.vm, hcl, hWs, hall, hf⟩⟩
  refine st1 _ ?_
  show Steps p.tables e below (T1.setTop { method := m, pc := pc + 3, locals := ls, stack := .ref T.heap.size :: rest, locked := none }) _
  jvm_step X₁.here [X₁.here.top, hexec, d3', Value.category]
  exact hsteps
/-- 'throw new E("text")': new; dup; ldc; invokespecial; athrow -/
theorem vx_throwS {cc : ByteArray} {pc : Nat} (hexec : p.tables.exec = Jvm.exec) (hb : c.code = cc) (hl : l.stackTraces = false) {own cls text : String} {names : List String} {ik is ic mc ms sa : Nat} {A : Nat → Prop}
    (hown : s.vm.findClass own = some m.cls) (hcls : Bundle.fit cls = true) (hnames : ∀ n ∈ names, Bundle.fit n = true)
    (hk : (Cond.classLink own ik cls).before args s = true) (hini : (Cond.initialized cls).before args s = true) (hstr : vk_R own is text sa s) (hat : ∀ w ∈ vx_atS own ic cls names, w.before args s = true)
    (hgood : ∀ w ∈ Cond.classLink own ik cls :: Cond.initialized cls :: vx_atS own ic cls names, vx_ot w = true)
    (hU : vx_Zq Bundle.tN "UNASSIGNED_STACK" Bundle.steD A s s.heap) (hN : vx_Zq Bundle.tN "SUPPRESSED_SENTINEL" Bundle.listD A s s.heap) (hS : va_S A s.heap H locs) (hsize : ls.size = c.maxLocals)
    (d0 : decode cc pc = .ok (.new ik, 3)) (d3 : decode cc (pc + 3) = .ok (.dup, 1)) (d4 : decode cc (pc + 4) = .ok (.ldc is, 2)) (d6 : decode cc (pc + 6) = .ok (.invokespecial ic, 3)) (d9 : decode cc (pc + 9) = .ok (.athrow, 1))
    (hout : ∀ x ∈ c.exceptionTable.toList, covers x (pc + 9) = false)
    (hRframes : names.length + 3 < R.frames) (hRlocals : (rest.map fun v => v.category).sum + (13 * (names.length + 1) + 43) ≤ R.locals) (hRcells : cells + 1 ≤ R.cells) (hRslots : slots + 6 ≤ R.slots) (hlocks : meth.locks = false)
    (hx : ∀ t : State, s.vm.Alike t.vm → H.size ≤ t.heap.size → (∀ q : Nat, q < H.size → t.heap[q]? = H[q]?) → XC cls s t)
    (hf : ∀ z ∈ locs, free z.base) (hc : cells + 1 ≤ mc) (hs : slots + 6 ≤ ms) :
    W p l e R s m args below meth c H locs cells slots (vx_MQ below Qc XC args s mc ms free) (F0 m pc ls rest) := by
  intro T hT X
  have htr : e.platform.stackTraces = false := (show e.platform.stackTraces = l.stackTraces by rw [X.admits.platform]).trans hl
  have Y := vx_rebase X (R' := { frames := R.frames, locals := R.locals, cells := 1, slots := 6 }) (Nat.le_refl _) (Nat.le_refl _) hRcells hRslots
  obtain ⟨s', hA⟩ : ∃ z, z = (T.setVm s.vm).setFrames (.invoking m args :: below) := ⟨_, rfl⟩
  rw [← hA] at Y
  have hvm : s'.vm = s.vm := by rw [hA]; rfl
  have hhp : s'.heap = H := by rw [hA]; exact hT
  have hW0 : s.WarmedH s'.vm := by rw [hvm]; exact State.WarmedH.refl s
  have hat' : ∀ w ∈ vx_atS own ic cls names, w.before args s' = true := fun w hw => vx_ot_at hW0 hvm.symm (hgood w (List.mem_cons_of_mem _ (List.mem_cons_of_mem _ hw))) (hat w hw)
  have hk' : (Cond.classLink own ik cls).before args s' = true := vx_ot_at hW0 hvm.symm (hgood _ List.mem_cons_self) hk
  have hini' : (Cond.initialized cls).before args s' = true := vx_ot_at hW0 hvm.symm (hgood _ (List.mem_cons_of_mem _ List.mem_cons_self)) hini
  have hU' : vx_Zq Bundle.tN "UNASSIGNED_STACK" Bundle.steD A s' s'.heap := by rw [hhp]; exact vx_Zq.moved hW0.alike (hU.kept hS.2.1)
  have hN' : vx_Zq Bundle.tN "SUPPRESSED_SENTINEL" Bundle.listD A s' s'.heap := by rw [hhp]; exact vx_Zq.moved hW0.alike (hN.kept hS.2.1)
  have h : ∀ w ∈ Bundle.ownAtoms own ic cls names, w.before args s' = true := vx_own hat' (vx_isRefq hU'.1) (vx_isRefq hN'.1) hU'.2.word hN'.2.word
  have hown' : s'.vm.findClass own = some m.cls := by rw [hvm]; exact hown
  have hins : (Cond.instantiable cls 6).before args s' = true := h _ (by simp [Bundle.ownAtoms])
  obtain ⟨vm₁, cX, kX, hfX, hkX, -, -, X₁, st1⟩ := Y.newCold hexec (own := own) (C := cls) (index := ik) (n := 6) hown' hk' hins hini'
    (g := F0 m pc ls rest) rfl (by rw [hb]; exact d0) (Nat.le_refl _) (Nat.le_refl _)
  generalize hT1 : (T.setVm vm₁).pushCell { cls := cX, slots := kX.instanceTypes.map defaultValue, vm := .none } = T1 at X₁ st1
  have hcat : (Value.ref T.heap.size).category = 1 := rfl
  have hcellA : T1.heap[T.heap.size]? = some (freshCell cX kX) := by rw [← hT1]; exact State.heap_pushCell_size _ _
  have d3' : decode c.code (pc + 3) = .ok (.dup, 1) := by rw [hb]; exact d3
  have d4' : decode c.code (pc + 4) = .ok (.ldc is, 2) := by rw [hb]; exact d4
  have hstr' : vk_R own is text sa s' := vk_R.warm hW0 hstr
  obtain ⟨U, hsteps, hrun, hend, hW, hsame, ce, hce, hO⟩ := X₁.ctorThrowS hexec htr (own := own) (cls := cls) (names := names) (ic := ic) hown' hcls hnames h (fun x hx => nomatch hx) hfX hkX hcellA (by rw [hhp, hT]; exact Nat.le_refl _) (msg := .ref sa) rfl
    (g := { method := m, pc := pc + 6, locals := ls, stack := .ref sa :: .ref T.heap.size :: .ref T.heap.size :: rest, locked := none }) rfl hsize rfl rfl (rest := rest) rfl
    (by rw [hb]; exact d6) (by rw [hb]; exact d9) hout hRframes (by simp only [List.map_cons, List.sum_cons, hcat]; omega) hlocks
  obtain ⟨f1, f2⟩ := vx_frame hsame
  rw [hhp] at f1 f2
  have hWs : s.WarmedH U.vm := State.WarmedH.trans hW0 hW
  have hcl : s.vm.findClass cls = some ce.cls := by
    have h9 := hO.cls
    rw [hvm] at h9
    exact h9
  have hall : s.sameButNew ({ U with vm := s.vm } : State) locs mc ms := by
    subst hA
    obtain ⟨e1, e2⟩ := hsame
    rw [State.setFrames_setFrames] at e1
    have h2 : (T.setVm s.vm).sameButNew ({ U with vm := s.vm } : State) [] (0 + 1) (0 + 6) := ⟨e1, e2⟩
    have h3 := X.same.trans h2
    rw [List.append_nil] at h3
    exact h3.mono hc hs
  refine ⟨U, ?_, .threw T.heap.size, hrun, hend, Or.inr ⟨T.heap.size, rfl, cls, ce, locs, hx U hWs.alike f1 (fun q hq => f2 q hq (fun z hz => nomatch hz)), hce, hO.vm, hcl, hWs, hall, hf⟩⟩
  refine st1 _ ?_
  show Steps p.tables e below (T1.setTop { method := m, pc := pc + 3, locals := ls, stack := .ref T.heap.size :: rest, locked := none }) _
  jvm_step X₁.here [X₁.here.top, hexec, d3', Value.category]
  exact X₁.ldcString hexec (own := own) (text := text) (index := is) (a := sa) hown' hstr'.1 hstr'.2
    (g := { method := m, pc := pc + 4, locals := ls, stack := .ref T.heap.size :: .ref T.heap.size :: rest, locked := none }) rfl d4' _ hsteps
/-- 'throw new E("text")', the text by a wide index -/
theorem vx_throwSW {cc : ByteArray} {pc : Nat} (hexec : p.tables.exec = Jvm.exec) (hb : c.code = cc) (hl : l.stackTraces = false) {own cls text : String} {names : List String} {ik is ic mc ms sa : Nat} {A : Nat → Prop}
    (hown : s.vm.findClass own = some m.cls) (hcls : Bundle.fit cls = true) (hnames : ∀ n ∈ names, Bundle.fit n = true)
    (hk : (Cond.classLink own ik cls).before args s = true) (hini : (Cond.initialized cls).before args s = true) (hstr : vk_R own is text sa s) (hat : ∀ w ∈ vx_atS own ic cls names, w.before args s = true)
    (hgood : ∀ w ∈ Cond.classLink own ik cls :: Cond.initialized cls :: vx_atS own ic cls names, vx_ot w = true)
    (hU : vx_Zq Bundle.tN "UNASSIGNED_STACK" Bundle.steD A s s.heap) (hN : vx_Zq Bundle.tN "SUPPRESSED_SENTINEL" Bundle.listD A s s.heap) (hS : va_S A s.heap H locs) (hsize : ls.size = c.maxLocals)
    (d0 : decode cc pc = .ok (.new ik, 3)) (d3 : decode cc (pc + 3) = .ok (.dup, 1)) (d4 : decode cc (pc + 4) = .ok (.ldc_w is, 3)) (d7 : decode cc (pc + 7) = .ok (.invokespecial ic, 3)) (d10 : decode cc (pc + 10) = .ok (.athrow, 1))
    (hout : ∀ x ∈ c.exceptionTable.toList, covers x (pc + 10) = false)
    (hRframes : names.length + 3 < R.frames) (hRlocals : (rest.map fun v => v.category).sum + (13 * (names.length + 1) + 43) ≤ R.locals) (hRcells : cells + 1 ≤ R.cells) (hRslots : slots + 6 ≤ R.slots) (hlocks : meth.locks = false)
    (hx : ∀ t : State, s.vm.Alike t.vm → H.size ≤ t.heap.size → (∀ q : Nat, q < H.size → t.heap[q]? = H[q]?) → XC cls s t)
    (hf : ∀ z ∈ locs, free z.base) (hc : cells + 1 ≤ mc) (hs : slots + 6 ≤ ms) :
    W p l e R s m args below meth c H locs cells slots (vx_MQ below Qc XC args s mc ms free) (F0 m pc ls rest) := by
  intro T hT X
  have htr : e.platform.stackTraces = false := (show e.platform.stackTraces = l.stackTraces by rw [X.admits.platform]).trans hl
  have Y := vx_rebase X (R' := { frames := R.frames, locals := R.locals, cells := 1, slots := 6 }) (Nat.le_refl _) (Nat.le_refl _) hRcells hRslots
  obtain ⟨s', hA⟩ : ∃ z, z = (T.setVm s.vm).setFrames (.invoking m args :: below) := ⟨_, rfl⟩
  rw [← hA] at Y
  have hvm : s'.vm = s.vm := by rw [hA]; rfl
  have hhp : s'.heap = H := by rw [hA]; exact hT
  have hW0 : s.WarmedH s'.vm := by rw [hvm]; exact State.WarmedH.refl s
  have hat' : ∀ w ∈ vx_atS own ic cls names, w.before args s' = true := fun w hw => vx_ot_at hW0 hvm.symm (hgood w (List.mem_cons_of_mem _ (List.mem_cons_of_mem _ hw))) (hat w hw)
  have hk' : (Cond.classLink own ik cls).before args s' = true := vx_ot_at hW0 hvm.symm (hgood _ List.mem_cons_self) hk
  have hini' : (Cond.initialized cls).before args s' = true := vx_ot_at hW0 hvm.symm (hgood _ (List.mem_cons_of_mem _ List.mem_cons_self)) hini
  have hU' : vx_Zq Bundle.tN "UNASSIGNED_STACK" Bundle.steD A s' s'.heap := by rw [hhp]; exact vx_Zq.moved hW0.alike (hU.kept hS.2.1)
  have hN' : vx_Zq Bundle.tN "SUPPRESSED_SENTINEL" Bundle.listD A s' s'.heap := by rw [hhp]; exact vx_Zq.moved hW0.alike (hN.kept hS.2.1)
  have h : ∀ w ∈ Bundle.ownAtoms own ic cls names, w.before args s' = true := vx_own hat' (vx_isRefq hU'.1) (vx_isRefq hN'.1) hU'.2.word hN'.2.word
  have hown' : s'.vm.findClass own = some m.cls := by rw [hvm]; exact hown
  have hins : (Cond.instantiable cls 6).before args s' = true := h _ (by simp [Bundle.ownAtoms])
  obtain ⟨vm₁, cX, kX, hfX, hkX, -, -, X₁, st1⟩ := Y.newCold hexec (own := own) (C := cls) (index := ik) (n := 6) hown' hk' hins hini'
    (g := F0 m pc ls rest) rfl (by rw [hb]; exact d0) (Nat.le_refl _) (Nat.le_refl _)
  generalize hT1 : (T.setVm vm₁).pushCell { cls := cX, slots := kX.instanceTypes.map defaultValue, vm := .none } = T1 at X₁ st1
  have hcat : (Value.ref T.heap.size).category = 1 := rfl
  have hcellA : T1.heap[T.heap.size]? = some (freshCell cX kX) := by rw [← hT1]; exact State.heap_pushCell_size _ _
  have d3' : decode c.code (pc + 3) = .ok (.dup, 1) := by rw [hb]; exact d3
  have d4' : decode c.code (pc + 4) = .ok (.ldc_w is, 3) := by rw [hb]; exact d4
  have hstr' : vk_R own is text sa s' := vk_R.warm hW0 hstr
  obtain ⟨U, hsteps, hrun, hend, hW, hsame, ce, hce, hO⟩ := X₁.ctorThrowS hexec htr (own := own) (cls := cls) (names := names) (ic := ic) hown' hcls hnames h (fun x hx => nomatch hx) hfX hkX hcellA (by rw [hhp, hT]; exact Nat.le_refl _) (msg := .ref sa) rfl
    (g := { method := m, pc := pc + 7, locals := ls, stack := .ref sa :: .ref T.heap.size :: .ref T.heap.size :: rest, locked := none }) rfl hsize rfl rfl (rest := rest) rfl
    (by rw [hb]; exact d7) (by rw [hb]; exact d10) hout hRframes (by simp only [List.map_cons, List.sum_cons, hcat]; omega) hlocks
  obtain ⟨f1, f2⟩ := vx_frame hsame
  rw [hhp] at f1 f2
  have hWs : s.WarmedH U.vm := State.WarmedH.trans hW0 hW
  have hcl : s.vm.findClass cls = some ce.cls := by
    have h9 := hO.cls
    rw [hvm] at h9
    exact h9
  have hall : s.sameButNew ({ U with vm := s.vm } : State) locs mc ms := by
    subst hA
    obtain ⟨e1, e2⟩ := hsame
    rw [State.setFrames_setFrames] at e1
    have h2 : (T.setVm s.vm).sameButNew ({ U with vm := s.vm } : State) [] (0 + 1) (0 + 6) := ⟨e1, e2⟩
    have h3 := X.same.trans h2
    rw [List.append_nil] at h3
    exact h3.mono hc hs
  refine ⟨U, ?_, .threw T.heap.size, hrun, hend, Or.inr ⟨T.heap.size, rfl, cls, ce, locs, hx U hWs.alike f1 (fun q hq => f2 q hq (fun z hz => nomatch hz)), hce, hO.vm, hcl, hWs, hall, hf⟩⟩
  refine st1 _ ?_
  show Steps p.tables e below (T1.setTop { method := m, pc := pc + 3, locals := ls, stack := .ref T.heap.size :: rest, locked := none }) _
  jvm_step X₁.here [X₁.here.top, hexec, d3', Value.category]
  exact X₁.ldcStringW hexec (own := own) (text := text) (index := is) (a := sa) hown' hstr'.1 hstr'.2
    (g := { method := m, pc := pc + 4, locals := ls, stack := .ref T.heap.size :: .ref T.heap.size :: rest, locked := none }) rfl d4' _ hsteps
end Ends
section Bodies
variable {l : Launch}
theorem vx_ofW {y : MethodName} {ws ws' : List Cond} {rm : Room} {Pc : Array Value → State → Prop} {Qc : Array Value → State → Outcome → State → Prop} {XC : String → State → State → Prop} {mc ms : Nat} {free : Addr → Prop} {cc : ByteArray} {maxL : Nat} {ret : Option FieldType}
    (hy : plainName y.cls = true) (hw : ws = Cond.code y cc maxL ret :: ws')
    (body : ∀ p e s m args below meth c s₁, BodyLoose p l y (headSpec ws rm) cc maxL ret e s m args below meth c s₁ → c.maxLocals = maxL → (∀ x ∈ c.exceptionTable.toList, False) → Pc args s →
      W p l e (headSpec ws rm).room s m args below meth c s.heap [] 0 0 (vx_MQ below Qc XC args s mc ms free) (entryFrame m args maxL)) : vx_Met l y ws rm Pc Qc XC mc ms free := by
  refine MetFree.of_bodyS (code := cc) (maxLocals := maxL) (ret := ret) hy ?_ ?_
  · intro args s m h hn
    obtain ⟨meth, c, h1, h2, h3, h4, h5, h6, -, -⟩ := Cond.code_spec hn (atoms_spec (ws := ws) h _ (by rw [hw]; exact List.mem_cons_self))
    exact ⟨meth, c, h1, h2, h3, h4, h5, h6⟩
  · intro p e s m args below meth c s₁ B hml hP _
    have hh0 : s₁.heap = s.heap := by rw [B.state]; rfl
    have ht : ∀ x ∈ c.exceptionTable.toList, False := by
      obtain ⟨meth9, c9, h1, h2, -, -, -, -, h7, -⟩ := Cond.code_spec B.named (atoms_spec (ws := ws) B.pre _ (by rw [hw]; exact List.mem_cons_self))
      cases Option.some.inj (h1.symm.trans B.method)
      cases Option.some.inj (h2.symm.trans (Stand.of_body B).code)
      intro x hx
      rw [Array.isEmpty_iff.mp h7] at hx
      cases hx
    obtain ⟨t, a1, o, b1, b2, b3⟩ := body p e s m args below meth c s₁ B hml ht hP s₁ hh0 (Stand.of_body B)
    exact ⟨t, o, a1, b1, b2, b3⟩
/-- the table of a body with handlers -/
theorem vx_table {p : Program} {x y : MethodName} {S : Spec} {cc bytes : ByteArray} {maxL maxL' : Nat} {ret ret' : Option FieldType} {e : Env} {s s₁ : State} {m : MethodId} {args : Array Value} {below : List Frame} {meth : Method} {c : Code} {hh : List (Nat × Nat × Nat × Nat)}
    (B : BodyLoose p l y S cc maxL ret e s m args below meth c s₁) (h : (Cond.codeWith y bytes maxL' ret' hh).before args s = true) : c.exceptionTable.toList = tableOf hh := by
  obtain ⟨m9, meth9, c9, hn9, h1, h2, -, -, h6, -⟩ := Cond.codeWith_spec h
  cases Option.some.inj (hn9.symm.trans B.named)
  cases Option.some.inj (h1.symm.trans B.method)
  cases Option.some.inj (h2.symm.trans (Stand.of_body B).code)
  rw [← h6, table_eq]
end Bodies
end VXA
/-! ===== END ===== -/
/-! ===== BEGIN a static call of a method with an exception table ===== -/
section VXS
variable {p : Program} {l : Launch} {e : Env} {R : Room} {s : State} {m : MethodId} {args : Array Value} {below : List Frame} {meth : Method} {c : Code} {T : State} {H : Heap} {locs : List Loc} {cells slots : Nat}
abbrev vx_CSW (R : Room) (s : State) (args : Array Value) (own : String) (index : Nat) (y : MethodName) (bytes : ByteArray) (maxL : Nat) (ret : Option FieldType) (hh : List (Nat × Nat × Nat × Nat)) (ws : List Cond) (rm : Room) (mc ms n : Nat) : Prop :=
  (rm.cells = mc ∧ rm.slots = ms ∧ rm.frames + 1 ≤ R.frames ∧ 8 + (maxL + 11) + rm.locals ≤ R.locals ∧ (∀ w ∈ ws, ∀ (a' : Array Value) (U : State), s.WarmedH U.vm → w.before a' U = true) ∧ Cond.codeWith y bytes maxL ret hh ∈ ws) ∧
  (Cond.codeWith y bytes maxL ret hh).before args s = true ∧ (Cond.initialized y.cls).before args s = true ∧ (y.cls ≠ "java/lang/invoke/MethodHandle" ∧ y.cls ≠ "java/lang/invoke/VarHandle") ∧
  (∀ sig, parseMethodDescriptor y.desc = some sig → n = sig.parameters.length) ∧ (Cond.methodLink own index y).before args s = true ∧ (Cond.static y).before args s = true
theorem vx_cwSW {own : String} {index maxL mc ms : Nat} {y : MethodName} {bytes : ByteArray} {ret : Option FieldType} {hh : List (Nat × Nat × Nat × Nat)} {Ts ws ws' : List Cond} {rm : Room} (n : Nat) (ht : ∀ w ∈ Ts, w.before args s = true) (hT : GoodIn Ts (va_wsS own index y ws)) (hw : ws = Cond.codeWith y bytes maxL ret hh :: ws') (hrc : rm.cells = mc) (hrs : rm.slots = ms)
    (hd : y.cls ≠ "java/lang/invoke/MethodHandle" ∧ y.cls ≠ "java/lang/invoke/VarHandle" ∧ (parseMethodDescriptor y.desc).map (fun d => d.parameters.length) = some n) (hR : rm.frames + 1 ≤ R.frames ∧ 8 + (maxL + 11) + rm.locals ≤ R.locals) :
    vx_CSW R s args own index y bytes maxL ret hh ws rm mc ms n := by
  have ok : ∀ w ∈ va_wsS own index y ws, w.before args s = true := fun w h => ht w (hT w h).1
  have hG : GoodIn Ts ws := fun w h => hT w (by unfold va_wsS; exact List.mem_append_right _ h)
  have hc : Cond.codeWith y bytes maxL ret hh ∈ ws := by rw [hw]; exact List.mem_cons_self
  refine ⟨⟨hrc, hrs, hR.1, hR.2, pay_in ht hG, hc⟩, ht _ (hG _ hc).1, ok _ (by simp [va_wsS]), ⟨hd.1, hd.2.1⟩, fun sig h => ?_, ok _ (by simp [va_wsS]), ok _ (by simp [va_wsS])⟩
  have h2 := hd.2.2
  rw [h] at h2
  exact (Option.some.inj h2).symm
theorem vx_callSW (X : Stand p l e R s m args below meth c T locs cells slots) (hexec : p.tables.exec = Jvm.exec) {own : String} {index : Nat} {y : MethodName} {bytes : ByteArray} {maxL : Nat} {ret : Option FieldType} {hh : List (Nat × Nat × Nat × Nat)}
    (hown : s.vm.findClass own = some m.cls) (hlink : (Cond.methodLink own index y).before args s = true) (hstat : (Cond.static y).before args s = true) (hinit : (Cond.initialized y.cls).before args s = true)
    (hcode : (Cond.codeWith y bytes maxL ret hh).before args s = true) (hy : y.cls ≠ "java/lang/invoke/MethodHandle" ∧ y.cls ≠ "java/lang/invoke/VarHandle")
    {W9 : Nat} {Pre : Pt → Array Value → Prop} {Post : Pt → Array Value → Option Value → Pt → Prop} (hK : Back l R p e below s args y 3 W9 Pre Post)
    {g : JFrame} (hg : g.method = m) (hsize : g.locals.size = c.maxLocals) {argsL rest : List Value} (hlen : ∀ sig, parseMethodDescriptor y.desc = some sig → argsL.length = sig.parameters.length)
    (hstack : g.stack = argsL.reverse ++ rest) (hW : 2 * g.monitorRoom + (rest.map fun v => v.category).sum ≤ W9) (hdg : decode c.code g.pc = .ok (.invokestatic index, 3))
    (hpre : ∀ vm₁, s.WarmedH vm₁ → Pre ⟨T.setVm vm₁, locs, cells, slots⟩ argsL.toArray) :
    ∃ (v : Option Value) (vm₁ : Vm) (B : Pt), s.WarmedH vm₁ ∧ Stand p l e R s m args below meth c B.U B.locs B.cells B.slots ∧ Post ⟨T.setVm vm₁, locs, cells, slots⟩ argsL.toArray v B ∧
      ∀ target, Steps p.tables e below (B.U.setTop { g with pc := g.pc + 3, stack := v.toList ++ rest }) target → Steps p.tables e below (T.setTop g) target := by
  obtain ⟨mk, methM, cM, hnamed, hmethM, -, -, -, -, -, -, hsigM⟩ := Cond.codeWith_spec hcode
  have hstatic : methM.isStatic = true := Cond.static_spec hnamed hmethM hstat
  obtain ⟨kP, hkP, -⟩ := className_of_methodNamed hnamed
  have hinitP : kP.init = .initialized := Cond.initialized_spec (findClass_of_methodNamed hnamed) hkP hinit
  obtain ⟨vm₁, X₁, hstep₁⟩ := X.invokestatic hexec hown hlink hnamed hmethM hstatic hkP hinitP hy (g := g) hg (argsL := argsL) (rest := rest) (hlen _ hsigM) hstack hdg
  obtain ⟨v, B, X', hpost, hsteps⟩ := hK m meth c ⟨T.setVm vm₁, locs, cells, slots⟩ { g with stack := rest } (.invokestatic index) mk argsL.toArray X₁ hg hsize hdg hW (X₁.named hnamed) (hpre vm₁ X₁.warmed)
  exact ⟨v, vm₁, B, X₁.warmed, X', hpost, fun target h => hstep₁ _ fun acts => by rw [doInvoke_state]; exact hsteps.trans h⟩
theorem vx_runSW {y : MethodName} {bytes cc : ByteArray} {maxL nL mc ms n index : Nat} {ret : Option FieldType} {hh : List (Nat × Nat × Nat × Nat)} {ws : List Cond} {rm : Room} {Pc : Array Value → State → Prop} {Qc : Array Value → State → Outcome → State → Prop} {free : Addr → Prop} {Ts : List Cond} {own : String} {As rest : List Value} {g : JFrame}
    (S : CallFix p m c cc nL s args Ts own) (hM : Met l y ws rm Pc Qc mc ms free) (cw : vx_CSW R s args own index y bytes maxL ret hh ws rm mc ms n) (hp : PreS s H Pc As)
    (hg : g.method = m) (hn : As.length = n) (hsize : g.locals.size = nL) (hstack : g.stack = As.reverse ++ rest) (hW : 2 * g.monitorRoom + (rest.map fun v => v.category).sum ≤ 8) (hdg : decode cc g.pc = .ok (.invokestatic index, 3)) (hf : cells + mc ≤ R.cells ∧ slots + ms ≤ R.slots) :
    va_Run p l e R s m args below meth c H locs cells slots mc ms g rest (Qc As.toArray) (free) := by
  obtain ⟨⟨hrc, hrs, hfr, hlo, hws, hcw⟩, hcode, hini, hy, hlen, hl, hstt⟩ := cw
  have hK : Back l R p e below s args y 3 8 (PreOf R mc ms Pc) (PostOf Qc mc ms free) := va_backW (hh := hh) (bytes := bytes) (maxL := maxL) (ret := ret) hM hp.1 hrc hrs hfr hlo hws hcw (fun a' U hW => word_at hW (Or.inl (by first | rfl | simp [Cond.onTables, Cond.keeps, Cond.steady])) hini)
  obtain ⟨hx, hb, hml, ho, -⟩ := S
  intro T hT X
  obtain ⟨v, vm₁, ⟨U', l2, c2, s2⟩, hW₁, X', ⟨g', mk, t, L, e1, e2, hq, h1, hL, h2, h3⟩, st⟩ := vx_callSW X hx (hh := hh) (bytes := bytes) (maxL := maxL) (ret := ret) ho hl hstt hini hcode hy hK hg (hsize.trans hml.symm) (argsL := As) (rest := rest) (fun sig h => hn.trans (hlen sig h)) hstack hW (by rw [hb]; exact hdg)
    (fun vm₁ hW₁ => ⟨hf.1, hf.2, hp.2 (T.setVm vm₁) hT hW₁⟩)
  dsimp only [Pt.U, Pt.locs, Pt.cells, Pt.slots] at X' e1 e2 h1 h2 h3 st
  subst h1; subst h2; subst h3
  exact ⟨v, (T.setVm vm₁).calling g' mk As.toArray, t, U', L, hT, X', hL, e1, e2, hq, st⟩
/-- not caught here, past rows that name other classes: it goes on to the caller -/
theorem vx_outP {p : Program} {l : Launch} {e : Env} {R : Room} {s : State} {m : MethodId} {args : Array Value} {below : List Frame} {meth : Method} {c : Code} {H : Heap} {locs : List Loc} {cells slots : Nat} {free : Addr → Prop} {ls : Array Slot} {rest : List Value} {Qc : Array Value → State → Outcome → State → Prop} {XC : String → State → State → Prop}
    {pc : Nat} {own E : String} {ce : Cell} {q : Addr} {mc ms : Nat} (hown : s.vm.findClass own = some m.cls) (hlocks : meth.locks = false)
    (hpass : ∀ z ∈ c.exceptionTable.toList, covers z pc = false ∨ (z.catchType ≠ 0 ∧ ∃ nm : String, (Cond.classLink own z.catchType nm).before args s = true ∧ va_Nc E nm s)) (hcell : H[q]? = some ce) (hv : ce.vm = .none) (hcl : s.vm.findClass E = some ce.cls)
    (hx : ∀ t : State, t.heap = H → s.vm.Alike t.vm → XC E s t) (hf : ∀ z ∈ locs, free z.base) (hc : cells ≤ mc) (hs : slots ≤ ms) :
    vx_W p l e R s m args below meth c H locs cells slots (vx_MQ below Qc XC args s mc ms free) (F0 m pc ls rest) q := by
  intro T hT X
  have hpl : e.platform.magicAccessors = ({} : Platform).magicAccessors := by rw [X.admits.platform]
  obtain ⟨vm', hW', X', st⟩ := X.outThrough hlocks q (g := F0 m pc ls rest) rfl rfl rfl (cell := ce) (by rw [hT]; exact hcell) (by rw [hv]; rfl)
    (by obtain ⟨k9, h9, -⟩ := Vm.findClass_spec hcl; exact ⟨k9, h9⟩) (fun z hz => by
      rcases hpass z hz with h | ⟨hz0, nm, hl1, hn1⟩
      · exact Or.inl h
      · obtain ⟨c6, hc6, hcl6⟩ := Cond.classLink_spec hown hl1 e.platform hpl
        obtain ⟨a8, b8, h1, h2, h3⟩ := hn1
        cases Option.some.inj (h1.symm.trans hcl)
        cases Option.some.inj (h2.symm.trans hc6)
        exact Or.inr ⟨hz0, _, hcl6, h3⟩)
  obtain ⟨g₀, hfr⟩ := X'.frames_eq
  have hcell9 : ((T.setVm vm').setFrames (.throwing q :: below)).heap[q]? = some ce := by
    show T.heap[q]? = some ce
    rw [hT]; exact hcell
  have hend : Ended ((T.setVm vm').setFrames (.throwing q :: below)) below (.threw q) := State.frames_setFrames _ (State.cur_lt_of_frames hfr)
  refine ⟨(T.setVm vm').setFrames (.throwing q :: below), ?_, .threw q, X'.here.running, hend, Or.inr ⟨q, rfl, E, ce, locs, hx _ hT (X'.ends _).1.alike, hcell9, hv, hcl, (X'.ends _).1, (X'.ends _).2.mono hc hs, hf⟩⟩
  rw [X.pushThrowing_eq]
  exact st
/-- a thing of a world lies in the heap -/
theorem vx_lt {D : va_G} {cl : List vw_C} {ws : va_W} {H1 : Heap} (h : va_P D cl ws H1) {k : Nat} {q : Nat × va_E} (hk : ws[k]? = some q) : q.1 < H1.size := (h k q hk).lt
end VXS
/-! ===== END ===== -/
/-! ===== BEGIN methods with a table of their own: called by a name, returning or throwing ===== -/
section VXH
/-! vx_backW, vx_callVX, vx_callSX, vx_callVW, vx_runVW, vx_runVX, vx_runSX, vx_ofWH follow the same proofs as their sisters above (Free/Laws.lean, Shelf42/LK1.lean); vx_outP calls Shelf42/NT130.lean (outThrough). -/
section
variable {l : Launch} {R : Room} {p : Program} {e : Env} {below : List Frame} {s : State} {sargs : Array Value} {y : MethodName} {len W9 : Nat}
theorem vx_backW {ws : List Cond} {rm : Room} {Pc : Array Value → State → Prop} {Qc : Array Value → State → Outcome → State → Prop} {XC : String → State → State → Prop} {mc ms : Nat} {free : Addr → Prop} {bytes : ByteArray} {maxL : Nat} {ret : Option FieldType} {hh : List (Nat × Nat × Nat × Nat)}
    (hM : vx_Met l y ws rm Pc Qc XC mc ms free) (hblind : FrameBlind Pc) (hrc : rm.cells = mc) (hrs : rm.slots = ms)
    (hframes : rm.frames + 1 ≤ R.frames) (hlocals : W9 + (maxL + 11) + rm.locals ≤ R.locals)
    (hws : ∀ w ∈ ws, ∀ a' U, s.WarmedH U.vm → w.before a' U = true) (hcode : Cond.codeWith y bytes maxL ret hh ∈ ws) (hinit : ∀ a' U, s.WarmedH U.vm → (Cond.initialized y.cls).before a' U = true) :
    vx_Back l R p e below s sargs y len W9 (PreOf R mc ms Pc) (PostOf Qc mc ms free) (vx_Post XC mc ms free) := by
  intro m meth c A g ig mk a X hg hsize hdg hW hn hp
  have h1 : (headSpec ws rm).pre.before a A.U = true := atoms_intro fun w hw => hws w hw _ _ X.warmed
  have h2 : (Cond.codeWith y bytes maxL ret hh).before a A.U = true := hws _ hcode _ _ X.warmed
  have h3 : (Cond.initialized y.cls).before a A.U = true := hinit _ _ X.warmed
  have h4 : A.cells + (headSpec ws rm).room.cells ≤ R.cells := by rw [show (headSpec ws rm).room.cells = mc from hrc]; exact hp.1
  have h5 : A.slots + (headSpec ws rm).room.slots ≤ R.slots := by rw [show (headSpec ws rm).room.slots = ms from hrs]; exact hp.2.1
  have hPc : Pc a (A.U.calling g mk a) := hblind _ _ _ _ hp.2.2
  obtain ⟨U, Ls, c0, s0⟩ := A
  dsimp only [Pt.U, Pt.locs, Pt.cells, Pt.slots] at h1 h2 h3 h4 h5 X hn hPc ⊢
  obtain ⟨m9, methY, cY, hn9, hmY, hcY, -, hlY, -⟩ := Cond.codeWith_spec h2
  cases Option.some.inj (hn9.symm.trans hn)
  obtain ⟨kY, hkY, -⟩ := className_of_methodNamed hn
  have hinitY : kY.init = .initialized := Cond.initialized_spec (findClass_of_methodNamed hn) hkY h3
  have h : At U g.method c below := by rw [hg]; exact X.here
  have hlocals9 : W9 + (maxL + 11) + (headSpec ws rm).room.locals ≤ R.locals := hlocals
  have happ : (headSpec ws rm).appliesLoose y e.platform (U.calling g mk a) = true :=
    Spec.appliesLoose_calling (g := g) h hdg hn hkY hinitY
      (X.room_calling (g := g) (R' := (headSpec ws rm).room) hsize hmY hcY hframes (by rw [hlY]; omega) h4 h5) h1
  obtain ⟨mid, hmid⟩ := h.above
  have hfr : (U.setTop g).frames = (.java g :: mid) ++ below := by rw [State.frames_setTop' g h.top, hmid]; rfl
  obtain ⟨o, s₂, hsteps, -, hend, hq⟩ := Steps.callFree hM p X.admits X.cas X.clock (acts := []) hfr happ hPc trivial
  have hq' : vx_Q Qc XC mc ms free a (U.calling g mk a) o s₂ := hq
  rw [State.frames_setTop' g h.top] at hend
  obtain ⟨g₀, hg0⟩ := Option.isSome_iff_exists.mp h.top
  obtain ⟨r, hr⟩ := State.topJava?_eq_some.mp hg0
  have hr' : (({ U with heap := s₂.heap, slotsUsed := s₂.slotsUsed } : State).setVm s₂.vm).frames = .java g₀ :: r := hr
  rcases hq' with ⟨hqc, L, hfe, hL⟩ | ⟨q, rfl, E, ce, L, hx, hce, hcv, hcl, hW₂, hsm, hL⟩
  · obtain ⟨⟨v, rfl⟩, hW₂, e2, q2, q3, q4, q5, q6⟩ := id hfe
    have e3 : s₂ = ({ (U.calling g mk a).setFrames s₂.frames with heap := s₂.heap, slotsUsed := s₂.slotsUsed } : State).setVm s₂.vm := by
      have : s₂ = ({ s₂ with vm := (U.calling g mk a).vm } : State).setVm s₂.vm := rfl
      rw [e2] at this
      exact this
    obtain ⟨c₂, i₂, len₂, hc₂, hd₂, hf₂⟩ := hend
    have hW' : U.WarmedH s₂.vm := hW₂
    have hcc : c₂ = c := by
      have h1 : s₂.code? g.method = U.code? g.method := by
        rw [State.code?_eq, State.code?_eq, hW'.alike.method?]
      exact Option.some.inj (hc₂.symm.trans (h1.trans h.code))
    subst hcc
    have hlen : len₂ = len := by rw [hdg] at hd₂; cases hd₂; rfl
    subst hlen
    have hs₂ : s₂ = (({ U with heap := s₂.heap, slotsUsed := s₂.slotsUsed } : State).setVm s₂.vm).setTop { g with pc := g.pc + len₂, stack := v.toList ++ g.stack } := by
      refine e3.trans ?_
      rw [hf₂, State.calling_eq h.top, State.setFrames_setFrames, State.setTop_of_frames _ hr', hr]
      rfl
    have hsame : U.sameButNew ({ U with heap := s₂.heap, slotsUsed := s₂.slotsUsed } : State) L mc ms := by
      refine ⟨?_, q2, q3, q4, q5, q6⟩
      obtain ⟨t, ht, -⟩ := State.frames_cons hr
      show ({ U with heap := s₂.heap, slotsUsed := s₂.slotsUsed } : State) = { U.setFrames U.frames with heap := s₂.heap, slotsUsed := s₂.slotsUsed }
      rw [State.setFrames_self ht]
    subst hg
    refine Or.inl ⟨v, ⟨(({ U with heap := s₂.heap, slotsUsed := s₂.slotsUsed } : State).setVm s₂.vm), Ls ++ L, c0 + mc, s0 + ms⟩,
      ⟨X.admits, X.cas, X.clock, X.frames, X.room, X.hears, X.method, X.code, (X.here.setHeapUsed s₂.heap s₂.slotsUsed).setVm hW'.alike, X.tail, State.WarmedH.trans X.warmed hW', X.limits, X.bytes, X.same.trans (hsame.setVm s.vm)⟩,
      ⟨g, mk, s₂, L, rfl, rfl, hqc, rfl, hL, rfl, rfl⟩, ?_⟩
    show Steps p.tables e below _ ((({ U with heap := s₂.heap, slotsUsed := s₂.slotsUsed } : State).setVm s₂.vm).setTop { g with pc := g.pc + len₂, stack := v.toList ++ g.stack })
    rw [← hs₂]
    exact hsteps
  · obtain ⟨e2, q2, q3, q4, q5, q6⟩ := id hsm
    have e3 : s₂ = ({ (U.calling g mk a).setFrames s₂.frames with heap := s₂.heap, slotsUsed := s₂.slotsUsed } : State).setVm s₂.vm := by
      have : s₂ = ({ s₂ with vm := (U.calling g mk a).vm } : State).setVm s₂.vm := rfl
      rw [e2] at this
      exact this
    have hf₂ : s₂.frames = .throwing q :: .java g :: U.frames.tail := hend
    have hW' : U.WarmedH s₂.vm := hW₂
    have hs₂ : s₂ = ((({ U with heap := s₂.heap, slotsUsed := s₂.slotsUsed } : State).setVm s₂.vm).setTop g).pushFrame (.throwing q) := by
      refine e3.trans ?_
      rw [hf₂, State.calling_eq h.top, State.setFrames_setFrames, State.pushFrame, State.frames_setTop _ hr', State.setTop_of_frames _ hr', State.setFrames_setFrames, hr]
      rfl
    have hsame : U.sameButNew ({ U with heap := s₂.heap, slotsUsed := s₂.slotsUsed } : State) L mc ms := by
      refine ⟨?_, q2, q3, q4, q5, q6⟩
      obtain ⟨t, ht, -⟩ := State.frames_cons hr
      show ({ U with heap := s₂.heap, slotsUsed := s₂.slotsUsed } : State) = { U.setFrames U.frames with heap := s₂.heap, slotsUsed := s₂.slotsUsed }
      rw [State.setFrames_self ht]
    subst hg
    refine Or.inr ⟨q, ⟨(({ U with heap := s₂.heap, slotsUsed := s₂.slotsUsed } : State).setVm s₂.vm), Ls ++ L, c0 + mc, s0 + ms⟩,
      ⟨X.admits, X.cas, X.clock, X.frames, X.room, X.hears, X.method, X.code, (X.here.setHeapUsed s₂.heap s₂.slotsUsed).setVm hW'.alike, X.tail, State.WarmedH.trans X.warmed hW', X.limits, X.bytes, X.same.trans (hsame.setVm s.vm)⟩,
      ⟨g, mk, s₂, L, E, ce, rfl, rfl, hx, hce, hcv, hcl, rfl, hL, rfl, rfl⟩, ?_⟩
    show Steps p.tables e below _ (((({ U with heap := s₂.heap, slotsUsed := s₂.slotsUsed } : State).setVm s₂.vm).setTop g).pushFrame (.throwing q))
    rw [← hs₂]
    exact hsteps
end
variable {p : Program} {l : Launch} {e : Env} {R : Room} {s : State} {m : MethodId} {args : Array Value} {below : List Frame} {meth : Method} {c : Code} {T : State} {H : Heap} {locs : List Loc} {cells slots : Nat}
theorem vx_callVX (X : Stand p l e R s m args below meth c T locs cells slots) (hexec : p.tables.exec = Jvm.exec) {own C : String} {index : Nat} {y : MethodName} {bytes : ByteArray} {maxL : Nat} {ret : Option FieldType} {hh : List (Nat × Nat × Nat × Nat)}
    (hown : s.vm.findClass own = some m.cls) (hlink : (Cond.methodLink own index y).before args s = true) (hinst : (Cond.instanceMethod y).before args s = true) (hsel : (Cond.selects C y y).before args s = true)
    (hcode : (Cond.codeWith y bytes maxL ret hh).before args s = true) (hy : y.cls ≠ "java/lang/invoke/MethodHandle" ∧ y.cls ≠ "java/lang/invoke/VarHandle")
    {W9 : Nat} {Pre : Pt → Array Value → Prop} {Post : Pt → Array Value → Option Value → Pt → Prop} {PostX : Pt → Array Value → Addr → Pt → Prop} (hK : vx_Back l R p e below s args y 3 W9 Pre Post PostX)
    {b : Addr} {cellB : Cell} (hcell : T.heap[b]? = some cellB) (hobj : cellB.vm.isStatics = false) (hcls : s.vm.findClass C = some cellB.cls)
    {g : JFrame} (hg : g.method = m) (hsize : g.locals.size = c.maxLocals) {argsL rest : List Value} (hlen : ∀ sig, parseMethodDescriptor y.desc = some sig → argsL.length = sig.parameters.length)
    (hstack : g.stack = argsL.reverse ++ .ref b :: rest) (hW : 2 * g.monitorRoom + (rest.map fun v => v.category).sum ≤ W9) (hdg : decode c.code g.pc = .ok (.invokevirtual index, 3))
    (hpre : ∀ vm₁, s.WarmedH vm₁ → Pre ⟨T.setVm vm₁, locs, cells, slots⟩ (Value.ref b :: argsL).toArray) :
    (∃ (v : Option Value) (vm₁ : Vm) (B : Pt), s.WarmedH vm₁ ∧ Stand p l e R s m args below meth c B.U B.locs B.cells B.slots ∧ Post ⟨T.setVm vm₁, locs, cells, slots⟩ (Value.ref b :: argsL).toArray v B ∧
      ∀ target, Steps p.tables e below (B.U.setTop { g with pc := g.pc + 3, stack := v.toList ++ rest }) target → Steps p.tables e below (T.setTop g) target) ∨
    (∃ (q : Addr) (vm₁ : Vm) (B : Pt), s.WarmedH vm₁ ∧ Stand p l e R s m args below meth c B.U B.locs B.cells B.slots ∧ PostX ⟨T.setVm vm₁, locs, cells, slots⟩ (Value.ref b :: argsL).toArray q B ∧
      Steps p.tables e below (T.setTop g) ((B.U.setTop { g with stack := rest }).pushFrame (.throwing q))) := by
  obtain ⟨mk, methM, hnamed, hmethM, hstM, habM⟩ := Cond.instanceMethod_spec hinst
  obtain ⟨m8, methM', cM, hn8, hmethM', -, -, -, -, -, -, hsigM⟩ := Cond.codeWith_spec hcode
  cases Option.some.inj (hn8.symm.trans hnamed)
  cases hmethM.symm.trans hmethM'
  obtain ⟨c2, r2, m2, q1, q2, q3, q4, kP, hkP, hkPi⟩ := Cond.selects_spec hsel
  cases hcls.symm.trans q1
  cases (State.methodFound?_of_named hnamed hy).symm.trans q2
  cases hnamed.symm.trans q3
  have hselP : selectMethod e.platform s.vm cellB.cls mk = .method mk := by rw [Launch.admits_selectMethod X.admits]; exact q4
  obtain ⟨vm₁, X₁, hstep₁⟩ := X.invokevirtual hexec hown hlink hnamed hmethM hstM hkP hkPi hy (a := b) (cell := cellB) hcell
    (fun z h => by rw [h] at hobj; cases hobj) hselP hmethM habM hkP hkPi (g := g) hg (argsL := argsL) (rest := rest) (hlen _ hsigM) hstack hdg
  rcases hK m meth c ⟨T.setVm vm₁, locs, cells, slots⟩ { g with stack := rest } (.invokevirtual index) mk (Value.ref b :: argsL).toArray X₁ hg hsize hdg hW (X₁.named hnamed) (hpre vm₁ X₁.warmed) with ⟨v, B, X', hpost, hsteps⟩ | ⟨q, B, X', hpost, hsteps⟩
  · exact Or.inl ⟨v, vm₁, B, X₁.warmed, X', hpost, fun target h => hstep₁ _ fun acts => by rw [doInvoke_state]; exact hsteps.trans h⟩
  · exact Or.inr ⟨q, vm₁, B, X₁.warmed, X', hpost, hstep₁ _ fun acts => by rw [doInvoke_state]; exact hsteps⟩
theorem vx_callSX (X : Stand p l e R s m args below meth c T locs cells slots) (hexec : p.tables.exec = Jvm.exec) {own : String} {index : Nat} {y : MethodName} {bytes : ByteArray} {maxL : Nat} {ret : Option FieldType} {hh : List (Nat × Nat × Nat × Nat)}
    (hown : s.vm.findClass own = some m.cls) (hlink : (Cond.methodLink own index y).before args s = true) (hstat : (Cond.static y).before args s = true) (hinit : (Cond.initialized y.cls).before args s = true)
    (hcode : (Cond.codeWith y bytes maxL ret hh).before args s = true) (hy : y.cls ≠ "java/lang/invoke/MethodHandle" ∧ y.cls ≠ "java/lang/invoke/VarHandle")
    {W9 : Nat} {Pre : Pt → Array Value → Prop} {Post : Pt → Array Value → Option Value → Pt → Prop} {PostX : Pt → Array Value → Addr → Pt → Prop} (hK : vx_Back l R p e below s args y 3 W9 Pre Post PostX)
    {g : JFrame} (hg : g.method = m) (hsize : g.locals.size = c.maxLocals) {argsL rest : List Value} (hlen : ∀ sig, parseMethodDescriptor y.desc = some sig → argsL.length = sig.parameters.length)
    (hstack : g.stack = argsL.reverse ++ rest) (hW : 2 * g.monitorRoom + (rest.map fun v => v.category).sum ≤ W9) (hdg : decode c.code g.pc = .ok (.invokestatic index, 3))
    (hpre : ∀ vm₁, s.WarmedH vm₁ → Pre ⟨T.setVm vm₁, locs, cells, slots⟩ argsL.toArray) :
    (∃ (v : Option Value) (vm₁ : Vm) (B : Pt), s.WarmedH vm₁ ∧ Stand p l e R s m args below meth c B.U B.locs B.cells B.slots ∧ Post ⟨T.setVm vm₁, locs, cells, slots⟩ argsL.toArray v B ∧
      ∀ target, Steps p.tables e below (B.U.setTop { g with pc := g.pc + 3, stack := v.toList ++ rest }) target → Steps p.tables e below (T.setTop g) target) ∨
    (∃ (q : Addr) (vm₁ : Vm) (B : Pt), s.WarmedH vm₁ ∧ Stand p l e R s m args below meth c B.U B.locs B.cells B.slots ∧ PostX ⟨T.setVm vm₁, locs, cells, slots⟩ argsL.toArray q B ∧
      Steps p.tables e below (T.setTop g) ((B.U.setTop { g with stack := rest }).pushFrame (.throwing q))) := by
  obtain ⟨mk, methM, cM, hnamed, hmethM, -, -, -, -, -, -, hsigM⟩ := Cond.codeWith_spec hcode
  have hstatic : methM.isStatic = true := Cond.static_spec hnamed hmethM hstat
  obtain ⟨kP, hkP, -⟩ := className_of_methodNamed hnamed
  have hinitP : kP.init = .initialized := Cond.initialized_spec (findClass_of_methodNamed hnamed) hkP hinit
  obtain ⟨vm₁, X₁, hstep₁⟩ := X.invokestatic hexec hown hlink hnamed hmethM hstatic hkP hinitP hy (g := g) hg (argsL := argsL) (rest := rest) (hlen _ hsigM) hstack hdg
  rcases hK m meth c ⟨T.setVm vm₁, locs, cells, slots⟩ { g with stack := rest } (.invokestatic index) mk argsL.toArray X₁ hg hsize hdg hW (X₁.named hnamed) (hpre vm₁ X₁.warmed) with ⟨v, B, X', hpost, hsteps⟩ | ⟨q, B, X', hpost, hsteps⟩
  · exact Or.inl ⟨v, vm₁, B, X₁.warmed, X', hpost, fun target h => hstep₁ _ fun acts => by rw [doInvoke_state]; exact hsteps.trans h⟩
  · exact Or.inr ⟨q, vm₁, B, X₁.warmed, X', hpost, hstep₁ _ fun acts => by rw [doInvoke_state]; exact hsteps⟩
theorem vx_callVW (X : Stand p l e R s m args below meth c T locs cells slots) (hexec : p.tables.exec = Jvm.exec) {own C : String} {index : Nat} {y : MethodName} {bytes : ByteArray} {maxL : Nat} {ret : Option FieldType} {hh : List (Nat × Nat × Nat × Nat)}
    (hown : s.vm.findClass own = some m.cls) (hlink : (Cond.methodLink own index y).before args s = true) (hinst : (Cond.instanceMethod y).before args s = true) (hsel : (Cond.selects C y y).before args s = true)
    (hcode : (Cond.codeWith y bytes maxL ret hh).before args s = true) (hy : y.cls ≠ "java/lang/invoke/MethodHandle" ∧ y.cls ≠ "java/lang/invoke/VarHandle")
    {W9 : Nat} {Pre : Pt → Array Value → Prop} {Post : Pt → Array Value → Option Value → Pt → Prop} (hK : Back l R p e below s args y 3 W9 Pre Post)
    {b : Addr} {cellB : Cell} (hcell : T.heap[b]? = some cellB) (hobj : cellB.vm.isStatics = false) (hcls : s.vm.findClass C = some cellB.cls)
    {g : JFrame} (hg : g.method = m) (hsize : g.locals.size = c.maxLocals) {argsL rest : List Value} (hlen : ∀ sig, parseMethodDescriptor y.desc = some sig → argsL.length = sig.parameters.length)
    (hstack : g.stack = argsL.reverse ++ .ref b :: rest) (hW : 2 * g.monitorRoom + (rest.map fun v => v.category).sum ≤ W9) (hdg : decode c.code g.pc = .ok (.invokevirtual index, 3))
    (hpre : ∀ vm₁, s.WarmedH vm₁ → Pre ⟨T.setVm vm₁, locs, cells, slots⟩ (Value.ref b :: argsL).toArray) :
    ∃ (v : Option Value) (vm₁ : Vm) (B : Pt), s.WarmedH vm₁ ∧ Stand p l e R s m args below meth c B.U B.locs B.cells B.slots ∧ Post ⟨T.setVm vm₁, locs, cells, slots⟩ (Value.ref b :: argsL).toArray v B ∧
      ∀ target, Steps p.tables e below (B.U.setTop { g with pc := g.pc + 3, stack := v.toList ++ rest }) target → Steps p.tables e below (T.setTop g) target := by
  obtain ⟨mk, methM, hnamed, hmethM, hstM, habM⟩ := Cond.instanceMethod_spec hinst
  obtain ⟨m8, methM', cM, hn8, hmethM', -, -, -, -, -, -, hsigM⟩ := Cond.codeWith_spec hcode
  cases Option.some.inj (hn8.symm.trans hnamed)
  cases hmethM.symm.trans hmethM'
  obtain ⟨c2, r2, m2, q1, q2, q3, q4, kP, hkP, hkPi⟩ := Cond.selects_spec hsel
  cases hcls.symm.trans q1
  cases (State.methodFound?_of_named hnamed hy).symm.trans q2
  cases hnamed.symm.trans q3
  have hselP : selectMethod e.platform s.vm cellB.cls mk = .method mk := by rw [Launch.admits_selectMethod X.admits]; exact q4
  obtain ⟨vm₁, X₁, hstep₁⟩ := X.invokevirtual hexec hown hlink hnamed hmethM hstM hkP hkPi hy (a := b) (cell := cellB) hcell
    (fun z h => by rw [h] at hobj; cases hobj) hselP hmethM habM hkP hkPi (g := g) hg (argsL := argsL) (rest := rest) (hlen _ hsigM) hstack hdg
  obtain ⟨v, B, X', hpost, hsteps⟩ := hK m meth c ⟨T.setVm vm₁, locs, cells, slots⟩ { g with stack := rest } (.invokevirtual index) mk (Value.ref b :: argsL).toArray X₁ hg hsize hdg hW (X₁.named hnamed) (hpre vm₁ X₁.warmed)
  exact ⟨v, vm₁, B, X₁.warmed, X', hpost, fun target h => hstep₁ _ fun acts => by rw [doInvoke_state]; exact hsteps.trans h⟩
abbrev vx_CVW (R : Room) (s : State) (args : Array Value) (own C : String) (index : Nat) (y : MethodName) (bytes : ByteArray) (maxL : Nat) (ret : Option FieldType) (hh : List (Nat × Nat × Nat × Nat)) (ws : List Cond) (rm : Room) (mc ms n : Nat) : Prop :=
  (rm.cells = mc ∧ rm.slots = ms ∧ rm.frames + 1 ≤ R.frames ∧ 8 + (maxL + 11) + rm.locals ≤ R.locals ∧ (∀ w ∈ ws, ∀ (a' : Array Value) (U : State), s.WarmedH U.vm → w.before a' U = true) ∧ Cond.codeWith y bytes maxL ret hh ∈ ws) ∧
  (Cond.codeWith y bytes maxL ret hh).before args s = true ∧ (Cond.initialized y.cls).before args s = true ∧ (y.cls ≠ "java/lang/invoke/MethodHandle" ∧ y.cls ≠ "java/lang/invoke/VarHandle") ∧
  (∀ sig, parseMethodDescriptor y.desc = some sig → n = sig.parameters.length) ∧ (Cond.methodLink own index y).before args s = true ∧ (Cond.instanceMethod y).before args s = true ∧ (Cond.selects C y y).before args s = true
theorem vx_cwVW {own C : String} {index maxL mc ms : Nat} {y : MethodName} {bytes : ByteArray} {ret : Option FieldType} {hh : List (Nat × Nat × Nat × Nat)} {Ts ws ws' : List Cond} {rm : Room} (n : Nat) (ht : ∀ w ∈ Ts, w.before args s = true) (hT : GoodIn Ts (wsV own index C y ws)) (hw : ws = Cond.codeWith y bytes maxL ret hh :: ws') (hrc : rm.cells = mc) (hrs : rm.slots = ms)
    (hd : y.cls = C ∧ y.cls ≠ "java/lang/invoke/MethodHandle" ∧ y.cls ≠ "java/lang/invoke/VarHandle" ∧ (parseMethodDescriptor y.desc).map (fun d => d.parameters.length) = some n) (hR : rm.frames + 1 ≤ R.frames ∧ 8 + (maxL + 11) + rm.locals ≤ R.locals) :
    vx_CVW R s args own C index y bytes maxL ret hh ws rm mc ms n := by
  obtain ⟨hC, hd⟩ := hd
  subst hC
  have ok : ∀ w ∈ wsV own index y.cls y ws, w.before args s = true := fun w h => ht w (hT w h).1
  have hG : GoodIn Ts ws := fun w h => hT w (by unfold wsV; exact List.mem_append_right _ h)
  have hc : Cond.codeWith y bytes maxL ret hh ∈ ws := by rw [hw]; exact List.mem_cons_self
  refine ⟨⟨hrc, hrs, hR.1, hR.2, pay_in ht hG, hc⟩, ht _ (hG _ hc).1, ok _ (by simp [wsV]), ⟨hd.1, hd.2.1⟩, fun sig h => ?_, ok _ (by simp [wsV]), ok _ (by simp [wsV]), ok _ (by simp [wsV])⟩
  have h2 := hd.2.2
  rw [h] at h2
  exact (Option.some.inj h2).symm
theorem vx_runVW {y : MethodName} {bytes cc : ByteArray} {maxL nL mc ms n index : Nat} {ret : Option FieldType} {hh : List (Nat × Nat × Nat × Nat)} {ws : List Cond} {rm : Room} {Pc : Array Value → State → Prop} {Qc : Array Value → State → Outcome → State → Prop} {free : Addr → Prop} {Ts : List Cond} {own C : String} {b : Addr} {As rest : List Value} {g : JFrame}
    (S : CallFix p m c cc nL s args Ts own) (hM : Met l y ws rm Pc Qc mc ms free) (cw : vx_CVW R s args own C index y bytes maxL ret hh ws rm mc ms n) (hp : PreV s H C b Pc As)
    (hg : g.method = m) (hn : As.length = n) (hsize : g.locals.size = nL) (hstack : g.stack = As.reverse ++ .ref b :: rest) (hW : 2 * g.monitorRoom + (rest.map fun v => v.category).sum ≤ 8) (hdg : decode cc g.pc = .ok (.invokevirtual index, 3)) (hf : cells + mc ≤ R.cells ∧ slots + ms ≤ R.slots) :
    va_Run p l e R s m args below meth c H locs cells slots mc ms g rest (Qc (Value.ref b :: As).toArray) free := by
  obtain ⟨⟨hrc, hrs, hfr, hlo, hws, hcw⟩, hcode, hini, hy, hlen, hl, hin, hse⟩ := cw
  have hK : Back l R p e below s args y 3 8 (PreOf R mc ms Pc) (PostOf Qc mc ms free) := va_backW (hh := hh) (bytes := bytes) (maxL := maxL) (ret := ret) hM hp.1 hrc hrs hfr hlo hws hcw (fun a' U hW => word_at hW (Or.inl (by first | rfl | simp [Cond.onTables, Cond.keeps, Cond.steady])) hini)
  obtain ⟨hx, hb, hml, ho, -⟩ := S
  obtain ⟨-, ⟨cellB, hcB, hoB, hclB⟩, hPc⟩ := hp
  intro T hT X
  obtain ⟨v, vm₁, ⟨U', l2, c2, s2⟩, hW₁, X', ⟨g', mk, t, L, e1, e2, hq, h1, hL, h2, h3⟩, st⟩ := vx_callVW X hx (C := C) (hh := hh) (bytes := bytes) (maxL := maxL) (ret := ret) ho hl hin hse hcode hy hK (by rw [hT]; exact hcB) hoB hclB hg (hsize.trans hml.symm) (argsL := As) (rest := rest) (fun sig h => hn.trans (hlen sig h)) hstack hW (by rw [hb]; exact hdg)
    (fun vm₁ hW₁ => ⟨hf.1, hf.2, hPc (T.setVm vm₁) hT hW₁⟩)
  dsimp only [Pt.U, Pt.locs, Pt.cells, Pt.slots] at X' e1 e2 h1 h2 h3 st
  subst h1; subst h2; subst h3
  exact ⟨v, (T.setVm vm₁).calling g' mk (Value.ref b :: As).toArray, t, U', L, hT, X', hL, e1, e2, hq, st⟩
section
variable {y : MethodName} {bytes cc : ByteArray} {maxL nL mc ms n index : Nat} {ret : Option FieldType} {ws : List Cond} {rm : Room} {Pc : Array Value → State → Prop} {Qc : Array Value → State → Outcome → State → Prop} {XC : String → State → State → Prop} {free : Addr → Prop} {Ts : List Cond} {own C : String} {b : Addr} {As rest : List Value} {g : JFrame}
theorem vx_runVX {hh : List (Nat × Nat × Nat × Nat)} (S : CallFix p m c cc nL s args Ts own) (hM : vx_Met l y ws rm Pc Qc XC mc ms free) (cw : vx_CVW R s args own C index y bytes maxL ret hh ws rm mc ms n) (hp : PreV s H C b Pc As)
    (hg : g.method = m) (hn : As.length = n) (hsize : g.locals.size = nL) (hstack : g.stack = As.reverse ++ .ref b :: rest) (hW : 2 * g.monitorRoom + (rest.map fun v => v.category).sum ≤ 8) (hdg : decode cc g.pc = .ok (.invokevirtual index, 3)) (hf : cells + mc ≤ R.cells ∧ slots + ms ≤ R.slots) :
    vx_Run p l e R s m args below meth c H locs cells slots mc ms g rest (Qc (Value.ref b :: As).toArray) XC free := by
  obtain ⟨⟨hrc, hrs, hfr, hlo, hws, hcw⟩, hcode, hini, hy, hlen, hl, hin, hse⟩ := cw
  have hK : vx_Back l R p e below s args y 3 8 (PreOf R mc ms Pc) (PostOf Qc mc ms free) (vx_Post XC mc ms free) := vx_backW (hh := hh) (bytes := bytes) (maxL := maxL) (ret := ret) hM hp.1 hrc hrs hfr hlo hws hcw (fun a' U hW => word_at hW (Or.inl (by first | rfl | simp [Cond.onTables, Cond.keeps, Cond.steady])) hini)
  obtain ⟨hx, hb, hml, ho, -⟩ := S
  obtain ⟨-, ⟨cellB, hcB, hoB, hclB⟩, hPc⟩ := hp
  intro T hT X
  rcases vx_callVX X hx (C := C) (hh := hh) (bytes := bytes) (maxL := maxL) (ret := ret) ho hl hin hse hcode hy hK (by rw [hT]; exact hcB) hoB hclB hg (hsize.trans hml.symm) (argsL := As) (rest := rest) (fun sig h => hn.trans (hlen sig h)) hstack hW (by rw [hb]; exact hdg)
    (fun vm₁ hW₁ => ⟨hf.1, hf.2, hPc (T.setVm vm₁) hT hW₁⟩) with ⟨v, vm₁, ⟨U', l2, c2, s2⟩, hW₁, X', ⟨g', mk, t, L, e1, e2, hq, h1, hL, h2, h3⟩, st⟩ | ⟨q, vm₁, ⟨U', l2, c2, s2⟩, hW₁, X', ⟨g', mk, t, L, E, ce, e1, e2, hq, hce, hcv, hcl, h1, hL, h2, h3⟩, st⟩
  · dsimp only [Pt.U, Pt.locs, Pt.cells, Pt.slots] at X' e1 e2 h1 h2 h3 st
    subst h1; subst h2; subst h3
    exact Or.inl ⟨v, (T.setVm vm₁).calling g' mk (Value.ref b :: As).toArray, t, U', L, hT, X', hL, e1, e2, hq, st⟩
  · dsimp only [Pt.U, Pt.locs, Pt.cells, Pt.slots] at X' e1 e2 h1 h2 h3 st hcl
    subst h1; subst h2; subst h3
    exact Or.inr ⟨q, (T.setVm vm₁).calling g' mk (Value.ref b :: As).toArray, t, U', L, E, ce, hT, X', hL, e1, e2, hq, hce, hcv, vx_cls hW₁ hcl, st⟩
theorem vx_runSX {hh : List (Nat × Nat × Nat × Nat)} (S : CallFix p m c cc nL s args Ts own) (hM : vx_Met l y ws rm Pc Qc XC mc ms free) (cw : vx_CSW R s args own index y bytes maxL ret hh ws rm mc ms n) (hp : PreS s H Pc As)
    (hg : g.method = m) (hn : As.length = n) (hsize : g.locals.size = nL) (hstack : g.stack = As.reverse ++ rest) (hW : 2 * g.monitorRoom + (rest.map fun v => v.category).sum ≤ 8) (hdg : decode cc g.pc = .ok (.invokestatic index, 3)) (hf : cells + mc ≤ R.cells ∧ slots + ms ≤ R.slots) :
    vx_Run p l e R s m args below meth c H locs cells slots mc ms g rest (Qc As.toArray) XC free := by
  obtain ⟨⟨hrc, hrs, hfr, hlo, hws, hcw⟩, hcode, hini, hy, hlen, hl, hstt⟩ := cw
  have hK : vx_Back l R p e below s args y 3 8 (PreOf R mc ms Pc) (PostOf Qc mc ms free) (vx_Post XC mc ms free) := vx_backW (hh := hh) (bytes := bytes) (maxL := maxL) (ret := ret) hM hp.1 hrc hrs hfr hlo hws hcw (fun a' U hW => word_at hW (Or.inl (by first | rfl | simp [Cond.onTables, Cond.keeps, Cond.steady])) hini)
  obtain ⟨hx, hb, hml, ho, -⟩ := S
  intro T hT X
  rcases vx_callSX X hx (hh := hh) (bytes := bytes) (maxL := maxL) (ret := ret) ho hl hstt hini hcode hy hK hg (hsize.trans hml.symm) (argsL := As) (rest := rest) (fun sig h => hn.trans (hlen sig h)) hstack hW (by rw [hb]; exact hdg)
    (fun vm₁ hW₁ => ⟨hf.1, hf.2, hp.2 (T.setVm vm₁) hT hW₁⟩) with ⟨v, vm₁, ⟨U', l2, c2, s2⟩, hW₁, X', ⟨g', mk, t, L, e1, e2, hq, h1, hL, h2, h3⟩, st⟩ | ⟨q, vm₁, ⟨U', l2, c2, s2⟩, hW₁, X', ⟨g', mk, t, L, E, ce, e1, e2, hq, hce, hcv, hcl, h1, hL, h2, h3⟩, st⟩
  · dsimp only [Pt.U, Pt.locs, Pt.cells, Pt.slots] at X' e1 e2 h1 h2 h3 st
    subst h1; subst h2; subst h3
    exact Or.inl ⟨v, (T.setVm vm₁).calling g' mk As.toArray, t, U', L, hT, X', hL, e1, e2, hq, st⟩
  · dsimp only [Pt.U, Pt.locs, Pt.cells, Pt.slots] at X' e1 e2 h1 h2 h3 st hcl
    subst h1; subst h2; subst h3
    exact Or.inr ⟨q, (T.setVm vm₁).calling g' mk As.toArray, t, U', L, E, ce, hT, X', hL, e1, e2, hq, hce, hcv, vx_cls hW₁ hcl, st⟩
end
end VXH
theorem vx_ofWH {l : Launch} {y : MethodName} {ws ws' : List Cond} {rm : Room} {Pc : Array Value → State → Prop} {Qc : Array Value → State → Outcome → State → Prop} {XC : String → State → State → Prop} {mc ms : Nat} {free : Addr → Prop} {cc : ByteArray} {maxL : Nat} {ret : Option FieldType} {hh : List (Nat × Nat × Nat × Nat)}
    (hy : plainName y.cls = true) (hw : ws = Cond.codeWith y cc maxL ret hh :: ws')
    (body : ∀ p e s m args below meth c s₁, BodyLoose p l y (headSpec ws rm) cc maxL ret e s m args below meth c s₁ → c.maxLocals = maxL → Pc args s →
      W p l e (headSpec ws rm).room s m args below meth c s.heap [] 0 0 (vx_MQ below Qc XC args s mc ms free) (entryFrame m args maxL)) : vx_Met l y ws rm Pc Qc XC mc ms free := by
  refine MetFree.of_bodyS (code := cc) (maxLocals := maxL) (ret := ret) hy ?_ ?_
  · intro args s m h hn
    obtain ⟨m9, meth, c, hn9, h1, h2, h3, h4, -, h5, h6, -⟩ := Cond.codeWith_spec (atoms_spec (ws := ws) h _ (by rw [hw]; exact List.mem_cons_self))
    cases hn.symm.trans hn9
    exact ⟨meth, c, h1, h2, h3, h4, h5, h6⟩
  · intro p e s m args below meth c s₁ B hml hP _
    have hh0 : s₁.heap = s.heap := by rw [B.state]; rfl
    obtain ⟨t, a1, o, b1, b2, b3⟩ := body p e s m args below meth c s₁ B hml hP s₁ hh0 (Stand.of_body B)
    exact ⟨t, o, a1, b1, b2, b3⟩
/-! ===== END ===== -/
/-! ===== BEGIN printed: names, fields, word lists, decode rows ===== -/
def RX0 : String := "ChanceRings$Course"
def TX0 : u_T := fun k => match k with
  | 0 => ("ChanceRings$Course", "net", "LChanceRings$Net;", true)
  | 1 => ("ChanceRings$Course", "equations", "LChanceRings$Equations;", true)
  | _ => ("ChanceRings$Course", "place", "[I", true)
def tyX0 : Nat → FieldType := fun k => match k with
  | 0 => .object "ChanceRings$Net"
  | 1 => .object "ChanceRings$Equations"
  | _ => .array .int
abbrev wsX00 : List Cond := u_ws RX0 TX0 3
theorem nmX0 : ∀ a, a < 3 → ∀ b, b < 3 → a ≠ b → (TX0 a).2.1 ≠ (TX0 b).2.1 := by decide +kernel
theorem tyX0_ok : ∀ k, k < 3 → parseFieldDescriptor (TX0 k).2.2.1 = some (tyX0 k) := by decide +kernel
abbrev cX0_init : ByteArray := prog_2_method_1_code
def yX0_init : MethodName := ⟨RX0, "<init>", "(LChanceRings$Net;)V"⟩
abbrev cX0_share : ByteArray := prog_2_method_2_code
def yX0_share : MethodName := ⟨RX0, "share", "([III)I"⟩
abbrev cX0_follow : ByteArray := prog_2_method_3_code
def yX0_follow : MethodName := ⟨RX0, "follow", "([II)I"⟩
abbrev cX0_expectPay : ByteArray := prog_2_method_4_code
def yX0_expectPay : MethodName := ⟨RX0, "expectPay", "([IIIILChanceRings$Values;)V"⟩
abbrev cX0_expectMoves : ByteArray := prog_2_method_5_code
def yX0_expectMoves : MethodName := ⟨RX0, "expectMoves", "([IILChanceRings$Values;)V"⟩
abbrev cX0_paidNext : ByteArray := prog_2_method_6_code
def yX0_paidNext : MethodName := ⟨RX0, "paidNext", "([II)J"⟩
abbrev cX0_lay : ByteArray := prog_2_method_7_code
def yX0_lay : MethodName := ⟨RX0, "lay", "([IIII)I"⟩
abbrev cX0_placeOpen : ByteArray := prog_2_method_8_code
def yX0_placeOpen : MethodName := ⟨RX0, "placeOpen", "(I)I"⟩
abbrev cX0_finish : ByteArray := prog_2_method_9_code
def yX0_finish : MethodName := ⟨RX0, "finish", "(ILChanceRings$Values;)V"⟩
def RX1 : String := "ChanceRings$Equations"
def TX1 : u_T := fun k => match k with
  | 0 => ("ChanceRings$Equations", "rows", "[[J", true)
  | 1 => ("ChanceRings$Equations", "right", "[J", true)
  | _ => ("ChanceRings$Equations", "whole", "J", false)
def tyX1 : Nat → FieldType := fun k => match k with
  | 0 => .array (.array .long)
  | 1 => .array .long
  | _ => .long
abbrev wsX10 : List Cond := u_ws RX1 TX1 3
theorem nmX1 : ∀ a, a < 3 → ∀ b, b < 3 → a ≠ b → (TX1 a).2.1 ≠ (TX1 b).2.1 := by decide +kernel
theorem tyX1_ok : ∀ k, k < 3 → parseFieldDescriptor (TX1 k).2.2.1 = some (tyX1 k) := by decide +kernel
abbrev cX1_init : ByteArray := prog_3_method_1_code
def yX1_init : MethodName := ⟨RX1, "<init>", "()V"⟩
abbrev cX1_clear : ByteArray := prog_3_method_2_code
def yX1_clear : MethodName := ⟨RX1, "clear", "()V"⟩
abbrev cX1_solve : ByteArray := prog_3_method_3_code
def yX1_solve : MethodName := ⟨RX1, "solve", "(I)V"⟩
abbrev cX1_eliminate : ByteArray := prog_3_method_4_code
def yX1_eliminate : MethodName := ⟨RX1, "eliminate", "(III)V"⟩
def RX2 : String := "ChanceRings$Net"
def TX2 : u_T := fun k => match k with
  | 0 => ("ChanceRings$Net", "nodes", "I", false)
  | 1 => ("ChanceRings$Net", "kind", "[I", true)
  | 2 => ("ChanceRings$Net", "pay", "[I", true)
  | 3 => ("ChanceRings$Net", "name", "[I", true)
  | 4 => ("ChanceRings$Net", "ways", "[I", true)
  | 5 => ("ChanceRings$Net", "held", "[I", true)
  | 6 => ("ChanceRings$Net", "targets", "[I", true)
  | _ => ("ChanceRings$Net", "weights", "[I", true)
def tyX2 : Nat → FieldType := fun k => match k with
  | 0 => .int
  | 1 => .array .int
  | 2 => .array .int
  | 3 => .array .int
  | 4 => .array .int
  | 5 => .array .int
  | 6 => .array .int
  | _ => .array .int
abbrev wsX20 : List Cond := u_ws RX2 TX2 8
theorem nmX2 : ∀ a, a < 8 → ∀ b, b < 8 → a ≠ b → (TX2 a).2.1 ≠ (TX2 b).2.1 := by decide +kernel
theorem tyX2_ok : ∀ k, k < 8 → parseFieldDescriptor (TX2 k).2.2.1 = some (tyX2 k) := by decide +kernel
abbrev cX2_init : ByteArray := prog_4_method_1_code
def yX2_init : MethodName := ⟨RX2, "<init>", "()V"⟩
abbrev cX2_copyFrom : ByteArray := prog_4_method_2_code
def yX2_copyFrom : MethodName := ⟨RX2, "copyFrom", "(LChanceRings$Net;)V"⟩
abbrev cX2_addNode : ByteArray := prog_4_method_3_code
def yX2_addNode : MethodName := ⟨RX2, "addNode", "(III)V"⟩
abbrev cX2_addWay : ByteArray := prog_4_method_4_code
def yX2_addWay : MethodName := ⟨RX2, "addWay", "(III)V"⟩
abbrev cX2_has : ByteArray := prog_4_method_5_code
def yX2_has : MethodName := ⟨RX2, "has", "(I)Z"⟩
abbrev cX2_hasWay : ByteArray := prog_4_method_6_code
def yX2_hasWay : MethodName := ⟨RX2, "hasWay", "(II)Z"⟩
abbrev cX2_isChooser : ByteArray := prog_4_method_7_code
def yX2_isChooser : MethodName := ⟨RX2, "isChooser", "(I)Z"⟩
abbrev cX2_canTake : ByteArray := prog_4_method_8_code
def yX2_canTake : MethodName := ⟨RX2, "canTake", "(II)Z"⟩
abbrev cX2_target : ByteArray := prog_4_method_9_code
def yX2_target : MethodName := ⟨RX2, "target", "(II)I"⟩
abbrev cX2_weight : ByteArray := prog_4_method_10_code
def yX2_weight : MethodName := ⟨RX2, "weight", "(II)I"⟩
abbrev cX2_setWeight : ByteArray := prog_4_method_11_code
def yX2_setWeight : MethodName := ⟨RX2, "setWeight", "(III)V"⟩
abbrev cX2_together : ByteArray := prog_4_method_12_code
def yX2_together : MethodName := ⟨RX2, "together", "(I)I"⟩
abbrev cX2_nextNodes : ByteArray := prog_4_method_13_code
def yX2_nextNodes : MethodName := ⟨RX2, "nextNodes", "(I)I"⟩
abbrev cX2_payingEnds : ByteArray := prog_4_method_14_code
def yX2_payingEnds : MethodName := ⟨RX2, "payingEnds", "()I"⟩
abbrev cX2_find : ByteArray := prog_4_method_15_code
def yX2_find : MethodName := ⟨RX2, "find", "(I)I"⟩
abbrev cX2_countOf : ByteArray := prog_4_method_16_code
def yX2_countOf : MethodName := ⟨RX2, "countOf", "(I)I"⟩
abbrev cX2_countWays : ByteArray := prog_4_method_17_code
def yX2_countWays : MethodName := ⟨RX2, "countWays", "()I"⟩
abbrev cX2_countTakable : ByteArray := prog_4_method_18_code
def yX2_countTakable : MethodName := ⟨RX2, "countTakable", "(I)I"⟩
abbrev cX2_heldNodes : ByteArray := prog_4_method_19_code
def yX2_heldNodes : MethodName := ⟨RX2, "heldNodes", "()I"⟩
def RX3 : String := "ChanceRings$Outcome"
def TX3 : u_T := fun k => match k with
  | 0 => ("ChanceRings$Outcome", "net", "LChanceRings$Net;", true)
  | 1 => ("ChanceRings$Outcome", "solver", "LChanceRings$Solver;", true)
  | 2 => ("ChanceRings$Outcome", "plan", "[I", true)
  | 3 => ("ChanceRings$Outcome", "worth", "LChanceRings$Values;", true)
  | 4 => ("ChanceRings$Outcome", "length", "LChanceRings$Values;", true)
  | 5 => ("ChanceRings$Outcome", "reach", "[I", true)
  | 6 => ("ChanceRings$Outcome", "ringBits", "[I", true)
  | 7 => ("ChanceRings$Outcome", "ringCount", "I", false)
  | 8 => ("ChanceRings$Outcome", "ringNodes", "I", false)
  | _ => ("ChanceRings$Outcome", "settled", "Z", false)
def tyX3 : Nat → FieldType := fun k => match k with
  | 0 => .object "ChanceRings$Net"
  | 1 => .object "ChanceRings$Solver"
  | 2 => .array .int
  | 3 => .object "ChanceRings$Values"
  | 4 => .object "ChanceRings$Values"
  | 5 => .array .int
  | 6 => .array .int
  | 7 => .int
  | 8 => .int
  | _ => .boolean
abbrev wsX30 : List Cond := u_ws RX3 TX3 10
theorem nmX3 : ∀ a, a < 10 → ∀ b, b < 10 → a ≠ b → (TX3 a).2.1 ≠ (TX3 b).2.1 := by decide +kernel
theorem tyX3_ok : ∀ k, k < 10 → parseFieldDescriptor (TX3 k).2.2.1 = some (tyX3 k) := by decide +kernel
abbrev cX3_init : ByteArray := prog_5_method_1_code
def yX3_init : MethodName := ⟨RX3, "<init>", "(LChanceRings$Net;LChanceRings$Solver;)V"⟩
abbrev cX3_settle : ByteArray := prog_5_method_2_code
def yX3_settle : MethodName := ⟨RX3, "settle", "()V"⟩
abbrev cX3_findReach : ByteArray := prog_5_method_3_code
def yX3_findReach : MethodName := ⟨RX3, "findReach", "()V"⟩
abbrev cX3_findRings : ByteArray := prog_5_method_4_code
def yX3_findRings : MethodName := ⟨RX3, "findRings", "()V"⟩
abbrev cX3_comesBack : ByteArray := prog_5_method_5_code
def yX3_comesBack : MethodName := ⟨RX3, "comesBack", "(I)Z"⟩
abbrev cX3_comesToRing : ByteArray := prog_5_method_6_code
def yX3_comesToRing : MethodName := ⟨RX3, "comesToRing", "(I)Z"⟩
abbrev cX3_worthless : ByteArray := prog_5_method_7_code
def yX3_worthless : MethodName := ⟨RX3, "worthless", "()I"⟩
abbrev cX3_ranked : ByteArray := prog_5_method_8_code
def yX3_ranked : MethodName := ⟨RX3, "ranked", "(I)I"⟩
abbrev cX3_countAhead : ByteArray := prog_5_method_9_code
def yX3_countAhead : MethodName := ⟨RX3, "countAhead", "(I)I"⟩
abbrev cX3_walk : ByteArray := prog_5_method_10_code
def yX3_walk : MethodName := ⟨RX3, "walk", "(III)I"⟩
abbrev cX3_drawnWay : ByteArray := prog_5_method_11_code
def yX3_drawnWay : MethodName := ⟨RX3, "drawnWay", "(II)I"⟩
def RX4 : String := "ChanceRings$Reader"
def TX4 : u_T := fun k => match k with
  | 0 => ("ChanceRings$Reader", "tape", "LChanceRings$Tape;", true)
  | 1 => ("ChanceRings$Reader", "net", "LChanceRings$Net;", true)
  | 2 => ("ChanceRings$Reader", "kindWords", "[I", true)
  | 3 => ("ChanceRings$Reader", "wayWord", "I", true)
  | 4 => ("ChanceRings$Reader", "faultKind", "I", false)
  | 5 => ("ChanceRings$Reader", "faultPlace", "I", false)
  | 6 => ("ChanceRings$Reader", "next", "I", false)
  | 7 => ("ChanceRings$Reader", "token", "I", false)
  | 8 => ("ChanceRings$Reader", "tokenPlace", "I", false)
  | _ => ("ChanceRings$Reader", "tokenValue", "I", false)
def tyX4 : Nat → FieldType := fun k => match k with
  | 0 => .object "ChanceRings$Tape"
  | 1 => .object "ChanceRings$Net"
  | 2 => .array .int
  | 3 => .int
  | 4 => .int
  | 5 => .int
  | 6 => .int
  | 7 => .int
  | 8 => .int
  | _ => .int
abbrev wsX40 : List Cond := u_ws RX4 TX4 10
theorem nmX4 : ∀ a, a < 10 → ∀ b, b < 10 → a ≠ b → (TX4 a).2.1 ≠ (TX4 b).2.1 := by decide +kernel
theorem tyX4_ok : ∀ k, k < 10 → parseFieldDescriptor (TX4 k).2.2.1 = some (tyX4 k) := by decide +kernel
abbrev cX4_init : ByteArray := prog_6_method_1_code
def yX4_init : MethodName := ⟨RX4, "<init>", "(LChanceRings$Tape;LChanceRings$Net;)V"⟩
abbrev cX4_read : ByteArray := prog_6_method_2_code
def yX4_read : MethodName := ⟨RX4, "read", "()V"⟩
abbrev cX4_fail : ByteArray := prog_6_method_3_code
def yX4_fail : MethodName := ⟨RX4, "fail", "(I)V"⟩
abbrev cX4_failAt : ByteArray := prog_6_method_4_code
def yX4_failAt : MethodName := ⟨RX4, "failAt", "(II)V"⟩
abbrev cX4_lacksWay : ByteArray := prog_6_method_5_code
def yX4_lacksWay : MethodName := ⟨RX4, "lacksWay", "()Z"⟩
abbrev cX4_readLine : ByteArray := prog_6_method_6_code
def yX4_readLine : MethodName := ⟨RX4, "readLine", "()V"⟩
abbrev cX4_kindOf : ByteArray := prog_6_method_7_code
def yX4_kindOf : MethodName := ⟨RX4, "kindOf", "(I)I"⟩
abbrev cX4_isFull : ByteArray := prog_6_method_8_code
def yX4_isFull : MethodName := ⟨RX4, "isFull", "(I)Z"⟩
abbrev cX4_isName : ByteArray := prog_6_method_9_code
def yX4_isName : MethodName := ⟨RX4, "isName", "()Z"⟩
abbrev cX4_readNode : ByteArray := prog_6_method_10_code
def yX4_readNode : MethodName := ⟨RX4, "readNode", "(I)V"⟩
abbrev cX4_isPay : ByteArray := prog_6_method_11_code
def yX4_isPay : MethodName := ⟨RX4, "isPay", "()Z"⟩
abbrev cX4_readStart : ByteArray := prog_6_method_12_code
def yX4_readStart : MethodName := ⟨RX4, "readStart", "()I"⟩
abbrev cX4_readTarget : ByteArray := prog_6_method_13_code
def yX4_readTarget : MethodName := ⟨RX4, "readTarget", "(I)V"⟩
abbrev cX4_isWeightFor : ByteArray := prog_6_method_14_code
def yX4_isWeightFor : MethodName := ⟨RX4, "isWeightFor", "(I)Z"⟩
abbrev cX4_advance : ByteArray := prog_6_method_15_code
def yX4_advance : MethodName := ⟨RX4, "advance", "()V"⟩
abbrev cX4_takeRun : ByteArray := prog_6_method_16_code
def yX4_takeRun : MethodName := ⟨RX4, "takeRun", "()V"⟩
abbrev cX4_isLetter : ByteArray := prog_6_method_17_code
def yX4_isLetter : MethodName := ⟨RX4, "isLetter", "(I)Z"⟩
abbrev cX4_isDigit : ByteArray := prog_6_method_18_code
def yX4_isDigit : MethodName := ⟨RX4, "isDigit", "(I)Z"⟩
def RX5 : String := "ChanceRings$Regions"
def TX5 : u_T := fun k => match k with
  | _ => ("ChanceRings$Regions", "net", "LChanceRings$Net;", true)
def tyX5 : Nat → FieldType := fun k => match k with
  | _ => .object "ChanceRings$Net"
abbrev wsX50 : List Cond := u_ws RX5 TX5 1
theorem nmX5 : ∀ a, a < 1 → ∀ b, b < 1 → a ≠ b → (TX5 a).2.1 ≠ (TX5 b).2.1 := by decide +kernel
theorem tyX5_ok : ∀ k, k < 1 → parseFieldDescriptor (TX5 k).2.2.1 = some (tyX5 k) := by decide +kernel
abbrev cX5_init : ByteArray := prog_7_method_1_code
def yX5_init : MethodName := ⟨RX5, "<init>", "(LChanceRings$Net;)V"⟩
abbrev cX5_forcedInto : ByteArray := prog_7_method_2_code
def yX5_forcedInto : MethodName := ⟨RX5, "forcedInto", "(II)I"⟩
abbrev cX5_surelyPaid : ByteArray := prog_7_method_3_code
def yX5_surelyPaid : MethodName := ⟨RX5, "surelyPaid", "()I"⟩
abbrev cX5_broughtToPay : ByteArray := prog_7_method_4_code
def yX5_broughtToPay : MethodName := ⟨RX5, "broughtToPay", "(I)I"⟩
abbrev cX5_isBroughtToPay : ByteArray := prog_7_method_5_code
def yX5_isBroughtToPay : MethodName := ⟨RX5, "isBroughtToPay", "(III)Z"⟩
abbrev cX5_movesToPay : ByteArray := prog_7_method_6_code
def yX5_movesToPay : MethodName := ⟨RX5, "movesToPay", "(I)I"⟩
def RX6 : String := "ChanceRings$Solver"
def TX6 : u_T := fun k => match k with
  | 0 => ("ChanceRings$Solver", "net", "LChanceRings$Net;", true)
  | 1 => ("ChanceRings$Solver", "course", "LChanceRings$Course;", true)
  | 2 => ("ChanceRings$Solver", "keep", "[I", true)
  | _ => ("ChanceRings$Solver", "scaled", "[J", true)
def tyX6 : Nat → FieldType := fun k => match k with
  | 0 => .object "ChanceRings$Net"
  | 1 => .object "ChanceRings$Course"
  | 2 => .array .int
  | _ => .array .long
abbrev wsX60 : List Cond := u_ws RX6 TX6 4
theorem nmX6 : ∀ a, a < 4 → ∀ b, b < 4 → a ≠ b → (TX6 a).2.1 ≠ (TX6 b).2.1 := by decide +kernel
theorem tyX6_ok : ∀ k, k < 4 → parseFieldDescriptor (TX6 k).2.2.1 = some (tyX6 k) := by decide +kernel
abbrev cX6_init : ByteArray := prog_8_method_1_code
def yX6_init : MethodName := ⟨RX6, "<init>", "(LChanceRings$Net;)V"⟩
abbrev cX6_firstWays : ByteArray := prog_8_method_2_code
def yX6_firstWays : MethodName := ⟨RX6, "firstWays", "([I)V"⟩
abbrev cX6_findLeft : ByteArray := prog_8_method_3_code
def yX6_findLeft : MethodName := ⟨RX6, "findLeft", "([IIILChanceRings$Values;)V"⟩
abbrev cX6_findWorth : ByteArray := prog_8_method_4_code
def yX6_findWorth : MethodName := ⟨RX6, "findWorth", "([IIILChanceRings$Values;)V"⟩
abbrev cX6_turn : ByteArray := prog_8_method_5_code
def yX6_turn : MethodName := ⟨RX6, "turn", "(I[ILChanceRings$Values;)I"⟩
abbrev cX6_turnOpen : ByteArray := prog_8_method_6_code
def yX6_turnOpen : MethodName := ⟨RX6, "turnOpen", "(I[ILChanceRings$Values;I)I"⟩
abbrev cX6_betterWay : ByteArray := prog_8_method_7_code
def yX6_betterWay : MethodName := ⟨RX6, "betterWay", "(IILChanceRings$Values;)I"⟩
abbrev cX6_unavoidable : ByteArray := prog_8_method_8_code
def yX6_unavoidable : MethodName := ⟨RX6, "unavoidable", "([I)I"⟩
abbrev cX6_findWithin : ByteArray := prog_8_method_9_code
def yX6_findWithin : MethodName := ⟨RX6, "findWithin", "(ILChanceRings$Values;)V"⟩
abbrev cX6_oneMoveMore : ByteArray := prog_8_method_10_code
def yX6_oneMoveMore : MethodName := ⟨RX6, "oneMoveMore", "(ILChanceRings$Values;)J"⟩
abbrev cX6_findBest : ByteArray := prog_8_method_11_code
def yX6_findBest : MethodName := ⟨RX6, "findBest", "(LChanceRings$Values;[I)V"⟩
abbrev cX6_goodWays : ByteArray := prog_8_method_12_code
def yX6_goodWays : MethodName := ⟨RX6, "goodWays", "(ILChanceRings$Values;)I"⟩
abbrev cX6_lowest : ByteArray := prog_8_method_13_code
def yX6_lowest : MethodName := ⟨RX6, "lowest", "(I)I"⟩
abbrev cX6_keepEven : ByteArray := prog_8_method_14_code
def yX6_keepEven : MethodName := ⟨RX6, "keepEven", "(LChanceRings$Values;)V"⟩
abbrev cX6_goodOf : ByteArray := prog_8_method_15_code
def yX6_goodOf : MethodName := ⟨RX6, "goodOf", "(ILChanceRings$Values;)I"⟩
abbrev cX6_bringsAll : ByteArray := prog_8_method_16_code
def yX6_bringsAll : MethodName := ⟨RX6, "bringsAll", "(LChanceRings$Values;)Z"⟩
abbrev cX6_isBrought : ByteArray := prog_8_method_17_code
def yX6_isBrought : MethodName := ⟨RX6, "isBrought", "(IILChanceRings$Values;)Z"⟩
def RX7 : String := "ChanceRings$Steps"
def TX7 : u_T := fun k => match k with
  | 0 => ("ChanceRings$Steps", "what", "[I", true)
  | 1 => ("ChanceRings$Steps", "node", "[I", true)
  | 2 => ("ChanceRings$Steps", "index", "[I", true)
  | 3 => ("ChanceRings$Steps", "before", "[I", true)
  | _ => ("ChanceRings$Steps", "count", "I", false)
def tyX7 : Nat → FieldType := fun k => match k with
  | 0 => .array .int
  | 1 => .array .int
  | 2 => .array .int
  | 3 => .array .int
  | _ => .int
abbrev wsX70 : List Cond := u_ws RX7 TX7 5
theorem nmX7 : ∀ a, a < 5 → ∀ b, b < 5 → a ≠ b → (TX7 a).2.1 ≠ (TX7 b).2.1 := by decide +kernel
theorem tyX7_ok : ∀ k, k < 5 → parseFieldDescriptor (TX7 k).2.2.1 = some (tyX7 k) := by decide +kernel
abbrev cX7_init : ByteArray := prog_9_method_1_code
def yX7_init : MethodName := ⟨RX7, "<init>", "()V"⟩
abbrev cX7_add : ByteArray := prog_9_method_2_code
def yX7_add : MethodName := ⟨RX7, "add", "(IIII)V"⟩
abbrev cX7_forgetOldest : ByteArray := prog_9_method_3_code
def yX7_forgetOldest : MethodName := ⟨RX7, "forgetOldest", "()V"⟩
abbrev cX7_takeBack : ByteArray := prog_9_method_4_code
def yX7_takeBack : MethodName := ⟨RX7, "takeBack", "(LChanceRings$Net;)V"⟩
def RX8 : String := "ChanceRings$Tape"
def TX8 : u_T := fun k => match k with
  | 0 => ("ChanceRings$Tape", "bytes", "[I", true)
  | _ => ("ChanceRings$Tape", "length", "I", false)
def tyX8 : Nat → FieldType := fun k => match k with
  | 0 => .array .int
  | _ => .int
abbrev wsX80 : List Cond := u_ws RX8 TX8 2
theorem nmX8 : ∀ a, a < 2 → ∀ b, b < 2 → a ≠ b → (TX8 a).2.1 ≠ (TX8 b).2.1 := by decide +kernel
theorem tyX8_ok : ∀ k, k < 2 → parseFieldDescriptor (TX8 k).2.2.1 = some (tyX8 k) := by decide +kernel
abbrev cX8_init : ByteArray := prog_10_method_1_code
def yX8_init : MethodName := ⟨RX8, "<init>", "()V"⟩
abbrev cX8_append : ByteArray := prog_10_method_2_code
def yX8_append : MethodName := ⟨RX8, "append", "(I)V"⟩
abbrev cX8_tellsFractions : ByteArray := prog_10_method_3_code
def yX8_tellsFractions : MethodName := ⟨RX8, "tellsFractions", "(I)Z"⟩
abbrev cX8_numerator : ByteArray := prog_10_method_4_code
def yX8_numerator : MethodName := ⟨RX8, "numerator", "(I)J"⟩
abbrev cX8_denominator : ByteArray := prog_10_method_5_code
def yX8_denominator : MethodName := ⟨RX8, "denominator", "(I)J"⟩
def RX9 : String := "ChanceRings$Telling"
def TX9 : u_T := fun k => match k with
  | 0 => ("ChanceRings$Telling", "bytes", "[I", true)
  | _ => ("ChanceRings$Telling", "length", "I", false)
def tyX9 : Nat → FieldType := fun k => match k with
  | 0 => .array .int
  | _ => .int
abbrev wsX90 : List Cond := u_ws RX9 TX9 2
theorem nmX9 : ∀ a, a < 2 → ∀ b, b < 2 → a ≠ b → (TX9 a).2.1 ≠ (TX9 b).2.1 := by decide +kernel
theorem tyX9_ok : ∀ k, k < 2 → parseFieldDescriptor (TX9 k).2.2.1 = some (tyX9 k) := by decide +kernel
abbrev cX9_init : ByteArray := prog_11_method_1_code
def yX9_init : MethodName := ⟨RX9, "<init>", "()V"⟩
abbrev cX9_tell : ByteArray := prog_11_method_2_code
def yX9_tell : MethodName := ⟨RX9, "tell", "(LChanceRings$Net;LChanceRings$Reader;)V"⟩
abbrev cX9_put : ByteArray := prog_11_method_3_code
def yX9_put : MethodName := ⟨RX9, "put", "(I)V"⟩
abbrev cX9_putDigit : ByteArray := prog_11_method_4_code
def yX9_putDigit : MethodName := ⟨RX9, "putDigit", "(I)V"⟩
abbrev cX9_putSpaced : ByteArray := prog_11_method_5_code
def yX9_putSpaced : MethodName := ⟨RX9, "putSpaced", "(I)V"⟩
abbrev cX9_putWord : ByteArray := prog_11_method_6_code
def yX9_putWord : MethodName := ⟨RX9, "putWord", "(I)V"⟩
def RX10 : String := "ChanceRings$Values"
def TX10 : u_T := fun k => match k with
  | 0 => ("ChanceRings$Values", "part", "[J", true)
  | _ => ("ChanceRings$Values", "whole", "J", false)
def tyX10 : Nat → FieldType := fun k => match k with
  | 0 => .array .long
  | _ => .long
abbrev wsX100 : List Cond := u_ws RX10 TX10 2
theorem nmX10 : ∀ a, a < 2 → ∀ b, b < 2 → a ≠ b → (TX10 a).2.1 ≠ (TX10 b).2.1 := by decide +kernel
theorem tyX10_ok : ∀ k, k < 2 → parseFieldDescriptor (TX10 k).2.2.1 = some (tyX10 k) := by decide +kernel
abbrev cX10_init : ByteArray := prog_12_method_1_code
def yX10_init : MethodName := ⟨RX10, "<init>", "()V"⟩
abbrev cX10_term : ByteArray := prog_12_method_2_code
def yX10_term : MethodName := ⟨RX10, "term", "(II)J"⟩
abbrev cX10_commonDivisor : ByteArray := prog_12_method_3_code
def yX10_commonDivisor : MethodName := ⟨RX10, "commonDivisor", "(JJ)J"⟩
def RX11 : String := "ChanceRings"
def TX11 : u_T := fun k => match k with
  | 0 => ("ChanceRings", "tape", "LChanceRings$Tape;", true)
  | 1 => ("ChanceRings", "net", "LChanceRings$Net;", true)
  | 2 => ("ChanceRings", "draft", "LChanceRings$Net;", true)
  | 3 => ("ChanceRings", "images", "[LChanceRings$Net;", true)
  | 4 => ("ChanceRings", "kept", "[Z", true)
  | 5 => ("ChanceRings", "reader", "LChanceRings$Reader;", true)
  | 6 => ("ChanceRings", "steps", "LChanceRings$Steps;", true)
  | 7 => ("ChanceRings", "telling", "LChanceRings$Telling;", true)
  | 8 => ("ChanceRings", "regions", "LChanceRings$Regions;", true)
  | 9 => ("ChanceRings", "solver", "LChanceRings$Solver;", true)
  | 10 => ("ChanceRings", "outcome", "LChanceRings$Outcome;", true)
  | 11 => ("ChanceRings", "tried", "[I", true)
  | 12 => ("ChanceRings", "left", "LChanceRings$Values;", true)
  | 13 => ("ChanceRings", "leftKnown", "Z", false)
  | 14 => ("ChanceRings", "stoppedWays", "[I", true)
  | 15 => ("ChanceRings", "stoppedWorth", "LChanceRings$Values;", true)
  | 16 => ("ChanceRings", "stoppedBy", "I", false)
  | _ => ("ChanceRings", "withinWorth", "LChanceRings$Values;", true)
def tyX11 : Nat → FieldType := fun k => match k with
  | 0 => .object "ChanceRings$Tape"
  | 1 => .object "ChanceRings$Net"
  | 2 => .object "ChanceRings$Net"
  | 3 => .array (.object "ChanceRings$Net")
  | 4 => .array .boolean
  | 5 => .object "ChanceRings$Reader"
  | 6 => .object "ChanceRings$Steps"
  | 7 => .object "ChanceRings$Telling"
  | 8 => .object "ChanceRings$Regions"
  | 9 => .object "ChanceRings$Solver"
  | 10 => .object "ChanceRings$Outcome"
  | 11 => .array .int
  | 12 => .object "ChanceRings$Values"
  | 13 => .boolean
  | 14 => .array .int
  | 15 => .object "ChanceRings$Values"
  | 16 => .int
  | _ => .object "ChanceRings$Values"
abbrev wsX110 : List Cond := u_ws RX11 TX11 18
theorem nmX11 : ∀ a, a < 18 → ∀ b, b < 18 → a ≠ b → (TX11 a).2.1 ≠ (TX11 b).2.1 := by decide +kernel
theorem tyX11_ok : ∀ k, k < 18 → parseFieldDescriptor (TX11 k).2.2.1 = some (tyX11 k) := by decide +kernel
abbrev cX11_init : ByteArray := prog_1_method_1_code
def yX11_init : MethodName := ⟨RX11, "<init>", "()V"⟩
abbrev cX11_feed : ByteArray := prog_1_method_2_code
def yX11_feed : MethodName := ⟨RX11, "feed", "(IIIII)I"⟩
abbrev cX11_end : ByteArray := prog_1_method_3_code
def yX11_end : MethodName := ⟨RX11, "end", "(I)Z"⟩
abbrev cX11_game : ByteArray := prog_1_method_4_code
def yX11_game : MethodName := ⟨RX11, "game", "()I"⟩
abbrev cX11_fault : ByteArray := prog_1_method_5_code
def yX11_fault : MethodName := ⟨RX11, "fault", "()I"⟩
abbrev cX11_node : ByteArray := prog_1_method_6_code
def yX11_node : MethodName := ⟨RX11, "node", "(II)I"⟩
abbrev cX11_way : ByteArray := prog_1_method_7_code
def yX11_way : MethodName := ⟨RX11, "way", "(III)I"⟩
abbrev cX11_worth : ByteArray := prog_1_method_8_code
def yX11_worth : MethodName := ⟨RX11, "worth", "(II)J"⟩
abbrev cX11_best : ByteArray := prog_1_method_9_code
def yX11_best : MethodName := ⟨RX11, "best", "(I)I"⟩
abbrev cX11_good : ByteArray := prog_1_method_10_code
def yX11_good : MethodName := ⟨RX11, "good", "(I)I"⟩
abbrev cX11_tried : ByteArray := prog_1_method_11_code
def yX11_tried : MethodName := ⟨RX11, "tried", "(I)I"⟩
abbrev cX11_left : ByteArray := prog_1_method_12_code
def yX11_left : MethodName := ⟨RX11, "left", "(II)J"⟩
abbrev cX11_improve : ByteArray := prog_1_method_13_code
def yX11_improve : MethodName := ⟨RX11, "improve", "()I"⟩
abbrev cX11_improveAll : ByteArray := prog_1_method_14_code
def yX11_improveAll : MethodName := ⟨RX11, "improveAll", "()I"⟩
abbrev cX11_hold : ByteArray := prog_1_method_15_code
def yX11_hold : MethodName := ⟨RX11, "hold", "(II)I"⟩
abbrev cX11_free : ByteArray := prog_1_method_16_code
def yX11_free : MethodName := ⟨RX11, "free", "(I)I"⟩
abbrev cX11_weigh : ByteArray := prog_1_method_17_code
def yX11_weigh : MethodName := ⟨RX11, "weigh", "(III)I"⟩
abbrev cX11_pay : ByteArray := prog_1_method_18_code
def yX11_pay : MethodName := ⟨RX11, "pay", "(II)I"⟩
abbrev cX11_stopped : ByteArray := prog_1_method_19_code
def yX11_stopped : MethodName := ⟨RX11, "stopped", "(III)J"⟩
abbrev cX11_within : ByteArray := prog_1_method_20_code
def yX11_within : MethodName := ⟨RX11, "within", "(III)J"⟩
abbrev cX11_forced : ByteArray := prog_1_method_21_code
def yX11_forced : MethodName := ⟨RX11, "forced", "(II)I"⟩
abbrev cX11_rings : ByteArray := prog_1_method_22_code
def yX11_rings : MethodName := ⟨RX11, "rings", "()I"⟩
abbrev cX11_ring : ByteArray := prog_1_method_23_code
def yX11_ring : MethodName := ⟨RX11, "ring", "(I)I"⟩
abbrev cX11_moves : ByteArray := prog_1_method_24_code
def yX11_moves : MethodName := ⟨RX11, "moves", "(II)J"⟩
abbrev cX11_sets : ByteArray := prog_1_method_25_code
def yX11_sets : MethodName := ⟨RX11, "sets", "(II)I"⟩
abbrev cX11_rank : ByteArray := prog_1_method_26_code
def yX11_rank : MethodName := ⟨RX11, "rank", "(I)I"⟩
abbrev cX11_above : ByteArray := prog_1_method_27_code
def yX11_above : MethodName := ⟨RX11, "above", "()I"⟩
abbrev cX11_below : ByteArray := prog_1_method_28_code
def yX11_below : MethodName := ⟨RX11, "below", "()I"⟩
abbrev cX11_play : ByteArray := prog_1_method_29_code
def yX11_play : MethodName := ⟨RX11, "play", "(III)I"⟩
abbrev cX11_often : ByteArray := prog_1_method_30_code
def yX11_often : MethodName := ⟨RX11, "often", "(IIII)I"⟩
abbrev cX11_text : ByteArray := prog_1_method_31_code
def yX11_text : MethodName := ⟨RX11, "text", "()I"⟩
abbrev cX11_byteAt : ByteArray := prog_1_method_32_code
def yX11_byteAt : MethodName := ⟨RX11, "byteAt", "(I)I"⟩
abbrev cX11_undo : ByteArray := prog_1_method_33_code
def yX11_undo : MethodName := ⟨RX11, "undo", "()I"⟩
abbrev cX11_image : ByteArray := prog_1_method_34_code
def yX11_image : MethodName := ⟨RX11, "image", "(I)Z"⟩
abbrev cX11_restore : ByteArray := prog_1_method_35_code
def yX11_restore : MethodName := ⟨RX11, "restore", "(I)Z"⟩
abbrev cX11_count : ByteArray := prog_1_method_36_code
def yX11_count : MethodName := ⟨RX11, "count", "(I)I"⟩
abbrev cX11_renew : ByteArray := prog_1_method_37_code
def yX11_renew : MethodName := ⟨RX11, "renew", "()V"⟩
abbrev cX11_knowLeft : ByteArray := prog_1_method_38_code
def yX11_knowLeft : MethodName := ⟨RX11, "knowLeft", "()V"⟩
abbrev cX11_firstUnproved : ByteArray := prog_1_method_39_code
def yX11_firstUnproved : MethodName := ⟨RX11, "firstUnproved", "()I"⟩
abbrev cX11_isProved : ByteArray := prog_1_method_40_code
def yX11_isProved : MethodName := ⟨RX11, "isProved", "(I)Z"⟩
abbrev cX11_countCovered : ByteArray := prog_1_method_41_code
def yX11_countCovered : MethodName := ⟨RX11, "countCovered", "(I)I"⟩
abbrev cX11_coversMean : ByteArray := prog_1_method_42_code
def yX11_coversMean : MethodName := ⟨RX11, "coversMean", "(I)Z"⟩
abbrev cX11_firstWithLess : ByteArray := prog_1_method_43_code
def yX11_firstWithLess : MethodName := ⟨RX11, "firstWithLess", "()I"⟩
abbrev cX11_pack : ByteArray := prog_1_method_44_code
def yX11_pack : MethodName := ⟨RX11, "pack", "(Ljava/lang/String;)I"⟩
def RX12 : String := "ChanceRingsModel"
def TX12 : u_T := fun k => match k with
  | 0 => ("ChanceRingsModel", "thrown", "I", false)
  | 1 => ("ChanceRingsModel", "s", "[I", true)
  | 2 => ("ChanceRingsModel", "spare", "[I", true)
  | 3 => ("ChanceRingsModel", "kept", "[I", true)
  | 4 => ("ChanceRingsModel", "undone", "[I", true)
  | 5 => ("ChanceRingsModel", "triedWay", "[I", true)
  | 6 => ("ChanceRingsModel", "isKept", "[Z", true)
  | 7 => ("ChanceRingsModel", "undoMany", "I", false)
  | 8 => ("ChanceRingsModel", "tape", "[B", true)
  | 9 => ("ChanceRingsModel", "length", "I", false)
  | 10 => ("ChanceRingsModel", "size", "I", false)
  | 11 => ("ChanceRingsModel", "p", "I", false)
  | 12 => ("ChanceRingsModel", "at", "I", false)
  | 13 => ("ChanceRingsModel", "token", "I", false)
  | 14 => ("ChanceRingsModel", "number", "I", false)
  | 15 => ("ChanceRingsModel", "letterMany", "I", false)
  | 16 => ("ChanceRingsModel", "fault", "I", false)
  | 17 => ("ChanceRingsModel", "faultAt", "I", false)
  | 18 => ("ChanceRingsModel", "letters", "[B", true)
  | 19 => ("ChanceRingsModel", "isKnown", "Z", false)
  | 20 => ("ChanceRingsModel", "choice", "[I", true)
  | 21 => ("ChanceRingsModel", "row", "[I", true)
  | 22 => ("ChanceRingsModel", "up", "[J", true)
  | 23 => ("ChanceRingsModel", "low", "[J", true)
  | 24 => ("ChanceRingsModel", "m", "[[J", true)
  | 25 => ("ChanceRingsModel", "bestUp", "[J", true)
  | 26 => ("ChanceRingsModel", "bestLow", "[J", true)
  | 27 => ("ChanceRingsModel", "replyUp", "[J", true)
  | 28 => ("ChanceRingsModel", "replyLow", "[J", true)
  | 29 => ("ChanceRingsModel", "worthUp", "[J", true)
  | 30 => ("ChanceRingsModel", "worthLow", "[J", true)
  | 31 => ("ChanceRingsModel", "bestWay", "[I", true)
  | 32 => ("ChanceRingsModel", "seed", "I", false)
  | 33 => ("ChanceRingsModel", "told", "[B", true)
  | _ => ("ChanceRingsModel", "toldMany", "I", false)
def tyX12 : Nat → FieldType := fun k => match k with
  | 0 => .int
  | 1 => .array .int
  | 2 => .array .int
  | 3 => .array .int
  | 4 => .array .int
  | 5 => .array .int
  | 6 => .array .boolean
  | 7 => .int
  | 8 => .array .byte
  | 9 => .int
  | 10 => .int
  | 11 => .int
  | 12 => .int
  | 13 => .int
  | 14 => .int
  | 15 => .int
  | 16 => .int
  | 17 => .int
  | 18 => .array .byte
  | 19 => .boolean
  | 20 => .array .int
  | 21 => .array .int
  | 22 => .array .long
  | 23 => .array .long
  | 24 => .array (.array .long)
  | 25 => .array .long
  | 26 => .array .long
  | 27 => .array .long
  | 28 => .array .long
  | 29 => .array .long
  | 30 => .array .long
  | 31 => .array .int
  | 32 => .int
  | 33 => .array .byte
  | _ => .int
abbrev wsX120 : List Cond := u_ws RX12 TX12 35
theorem nmX12 : ∀ a, a < 35 → ∀ b, b < 35 → a ≠ b → (TX12 a).2.1 ≠ (TX12 b).2.1 := by decide +kernel
theorem tyX12_ok : ∀ k, k < 35 → parseFieldDescriptor (TX12 k).2.2.1 = some (tyX12 k) := by decide +kernel
abbrev cX12_throwsIf : ByteArray := prog_14_method_2_code
def yX12_throwsIf : MethodName := ⟨RX12, "throwsIf", "(Z)Z"⟩
abbrev cX12_init : ByteArray := prog_14_method_3_code
def yX12_init : MethodName := ⟨RX12, "<init>", "()V"⟩
abbrev cX12_feed : ByteArray := prog_14_method_4_code
def yX12_feed : MethodName := ⟨RX12, "feed", "(IIIII)I"⟩
abbrev cX12_four : ByteArray := prog_14_method_5_code
def yX12_four : MethodName := ⟨RX12, "four", "(I)V"⟩
abbrev cX12_end : ByteArray := prog_14_method_6_code
def yX12_end : MethodName := ⟨RX12, "end", "(I)Z"⟩
abbrev cX12_taken : ByteArray := prog_14_method_7_code
def yX12_taken : MethodName := ⟨RX12, "taken", "()V"⟩
abbrev cX12_isIn : ByteArray := prog_14_method_8_code
def yX12_isIn : MethodName := ⟨RX12, "isIn", "(III)Z"⟩
abbrev cX12_bitOf : ByteArray := prog_14_method_9_code
def yX12_bitOf : MethodName := ⟨RX12, "bitOf", "(II)Z"⟩
abbrev cX12_copies : ByteArray := prog_14_method_10_code
def yX12_copies : MethodName := ⟨RX12, "copies", "([II[II)V"⟩
abbrev cX12_peek : ByteArray := prog_14_method_11_code
def yX12_peek : MethodName := ⟨RX12, "peek", "()I"⟩
abbrev cX12_isSmall : ByteArray := prog_14_method_12_code
def yX12_isSmall : MethodName := ⟨RX12, "isSmall", "(I)Z"⟩
abbrev cX12_isDigit : ByteArray := prog_14_method_13_code
def yX12_isDigit : MethodName := ⟨RX12, "isDigit", "(I)Z"⟩
abbrev cX12_bad : ByteArray := prog_14_method_14_code
def yX12_bad : MethodName := ⟨RX12, "bad", "(II)Z"⟩
abbrev cX12_badHere : ByteArray := prog_14_method_15_code
def yX12_badHere : MethodName := ⟨RX12, "badHere", "(I)Z"⟩
abbrev cX12_next : ByteArray := prog_14_method_16_code
def yX12_next : MethodName := ⟨RX12, "next", "()V"⟩
abbrev cX12_known : ByteArray := prog_14_method_17_code
def yX12_known : MethodName := ⟨RX12, "known", "()I"⟩
abbrev cX12_isName : ByteArray := prog_14_method_18_code
def yX12_isName : MethodName := ⟨RX12, "isName", "()Z"⟩
abbrev cX12_named : ByteArray := prog_14_method_19_code
def yX12_named : MethodName := ⟨RX12, "named", "()I"⟩
abbrev cX12_manyOf : ByteArray := prog_14_method_20_code
def yX12_manyOf : MethodName := ⟨RX12, "manyOf", "([II)I"⟩
abbrev cX12_nodeLine : ByteArray := prog_14_method_21_code
def yX12_nodeLine : MethodName := ⟨RX12, "nodeLine", "(I)Z"⟩
abbrev cX12_weights : ByteArray := prog_14_method_22_code
def yX12_weights : MethodName := ⟨RX12, "weights", "([II)I"⟩
abbrev cX12_wayLine : ByteArray := prog_14_method_23_code
def yX12_wayLine : MethodName := ⟨RX12, "wayLine", "()Z"⟩
abbrev cX12_reads : ByteArray := prog_14_method_24_code
def yX12_reads : MethodName := ⟨RX12, "reads", "()Z"⟩
abbrev cX12_game : ByteArray := prog_14_method_25_code
def yX12_game : MethodName := ⟨RX12, "game", "()I"⟩
abbrev cX12_fault : ByteArray := prog_14_method_26_code
def yX12_fault : MethodName := ⟨RX12, "fault", "()I"⟩
abbrev cX12_changed : ByteArray := prog_14_method_27_code
def yX12_changed : MethodName := ⟨RX12, "changed", "()V"⟩
abbrev cX12_isNode : ByteArray := prog_14_method_28_code
def yX12_isNode : MethodName := ⟨RX12, "isNode", "(I)Z"⟩
abbrev cX12_isKind : ByteArray := prog_14_method_29_code
def yX12_isKind : MethodName := ⟨RX12, "isKind", "(II)Z"⟩
abbrev cX12_isPlayer : ByteArray := prog_14_method_30_code
def yX12_isPlayer : MethodName := ⟨RX12, "isPlayer", "(I)Z"⟩
abbrev cX12_isWay : ByteArray := prog_14_method_31_code
def yX12_isWay : MethodName := ⟨RX12, "isWay", "(II)Z"⟩
abbrev cX12_to : ByteArray := prog_14_method_32_code
def yX12_to : MethodName := ⟨RX12, "to", "(II)I"⟩
abbrev cX12_heavy : ByteArray := prog_14_method_33_code
def yX12_heavy : MethodName := ⟨RX12, "heavy", "(II)I"⟩
abbrev cX12_may : ByteArray := prog_14_method_34_code
def yX12_may : MethodName := ⟨RX12, "may", "(II)Z"⟩
abbrev cX12_node : ByteArray := prog_14_method_35_code
def yX12_node : MethodName := ⟨RX12, "node", "(II)I"⟩
abbrev cX12_way : ByteArray := prog_14_method_36_code
def yX12_way : MethodName := ⟨RX12, "way", "(III)I"⟩
abbrev cX12_divisor : ByteArray := prog_14_method_37_code
def yX12_divisor : MethodName := ⟨RX12, "divisor", "(JJ)J"⟩
abbrev cX12_lays : ByteArray := prog_14_method_38_code
def yX12_lays : MethodName := ⟨RX12, "lays", "(IJJ)V"⟩
abbrev cX12_onBits : ByteArray := prog_14_method_39_code
def yX12_onBits : MethodName := ⟨RX12, "onBits", "(I)I"⟩
abbrev cX12_comes : ByteArray := prog_14_method_40_code
def yX12_comes : MethodName := ⟨RX12, "comes", "(I)I"⟩
abbrev cX12_ends : ByteArray := prog_14_method_41_code
def yX12_ends : MethodName := ⟨RX12, "ends", "()I"⟩
abbrev cX12_solves : ByteArray := prog_14_method_42_code
def yX12_solves : MethodName := ⟨RX12, "solves", "(I)J"⟩
abbrev cX12_plays : ByteArray := prog_14_method_43_code
def yX12_plays : MethodName := ⟨RX12, "plays", "(II)V"⟩
abbrev cX12_firstPlan : ByteArray := prog_14_method_44_code
def yX12_firstPlan : MethodName := ⟨RX12, "firstPlan", "(I)V"⟩
abbrev cX12_nextPlan : ByteArray := prog_14_method_45_code
def yX12_nextPlan : MethodName := ⟨RX12, "nextPlan", "(I)Z"⟩
abbrev cX12_isMore : ByteArray := prog_14_method_46_code
def yX12_isMore : MethodName := ⟨RX12, "isMore", "(JJJJ)Z"⟩
abbrev cX12_replies : ByteArray := prog_14_method_47_code
def yX12_replies : MethodName := ⟨RX12, "replies", "(II)V"⟩
abbrev cX12_values : ByteArray := prog_14_method_48_code
def yX12_values : MethodName := ⟨RX12, "values", "(I)V"⟩
abbrev cX12_isWorth : ByteArray := prog_14_method_49_code
def yX12_isWorth : MethodName := ⟨RX12, "isWorth", "()Z"⟩
abbrev cX12_findsPlan : ByteArray := prog_14_method_50_code
def yX12_findsPlan : MethodName := ⟨RX12, "findsPlan", "(I)V"⟩
abbrev cX12_knows : ByteArray := prog_14_method_51_code
def yX12_knows : MethodName := ⟨RX12, "knows", "()V"⟩
abbrev cX12_isPart : ByteArray := prog_14_method_52_code
def yX12_isPart : MethodName := ⟨RX12, "isPart", "(I)Z"⟩
abbrev cX12_worth : ByteArray := prog_14_method_53_code
def yX12_worth : MethodName := ⟨RX12, "worth", "(II)J"⟩
abbrev cX12_best : ByteArray := prog_14_method_54_code
def yX12_best : MethodName := ⟨RX12, "best", "(I)I"⟩
abbrev cX12_good : ByteArray := prog_14_method_55_code
def yX12_good : MethodName := ⟨RX12, "good", "(I)I"⟩
abbrev cX12_tried : ByteArray := prog_14_method_56_code
def yX12_tried : MethodName := ⟨RX12, "tried", "(I)I"⟩
abbrev cX12_laysLeft : ByteArray := prog_14_method_57_code
def yX12_laysLeft : MethodName := ⟨RX12, "laysLeft", "()V"⟩
abbrev cX12_left : ByteArray := prog_14_method_58_code
def yX12_left : MethodName := ⟨RX12, "left", "(II)J"⟩
abbrev cX12_isMoreAt : ByteArray := prog_14_method_59_code
def yX12_isMoreAt : MethodName := ⟨RX12, "isMoreAt", "(II)Z"⟩
abbrev cX12_improves : ByteArray := prog_14_method_60_code
def yX12_improves : MethodName := ⟨RX12, "improves", "()I"⟩
abbrev cX12_improve : ByteArray := prog_14_method_61_code
def yX12_improve : MethodName := ⟨RX12, "improve", "()I"⟩
abbrev cX12_improveAll : ByteArray := prog_14_method_62_code
def yX12_improveAll : MethodName := ⟨RX12, "improveAll", "()I"⟩
abbrev cX12_keeps : ByteArray := prog_14_method_63_code
def yX12_keeps : MethodName := ⟨RX12, "keeps", "()V"⟩
abbrev cX12_sets0 : ByteArray := prog_14_method_64_code
def yX12_sets0 : MethodName := ⟨RX12, "sets0", "(II)I"⟩
abbrev cX12_hold : ByteArray := prog_14_method_65_code
def yX12_hold : MethodName := ⟨RX12, "hold", "(II)I"⟩
abbrev cX12_free : ByteArray := prog_14_method_66_code
def yX12_free : MethodName := ⟨RX12, "free", "(I)I"⟩
abbrev cX12_weigh : ByteArray := prog_14_method_67_code
def yX12_weigh : MethodName := ⟨RX12, "weigh", "(III)I"⟩
abbrev cX12_pay : ByteArray := prog_14_method_68_code
def yX12_pay : MethodName := ⟨RX12, "pay", "(II)I"⟩
abbrev cX12_undo : ByteArray := prog_14_method_69_code
def yX12_undo : MethodName := ⟨RX12, "undo", "()I"⟩
abbrev cX12_image : ByteArray := prog_14_method_70_code
def yX12_image : MethodName := ⟨RX12, "image", "(I)Z"⟩
abbrev cX12_restore : ByteArray := prog_14_method_71_code
def yX12_restore : MethodName := ⟨RX12, "restore", "(I)Z"⟩
abbrev cX12_stopped : ByteArray := prog_14_method_72_code
def yX12_stopped : MethodName := ⟨RX12, "stopped", "(III)J"⟩
abbrev cX12_mean : ByteArray := prog_14_method_73_code
def yX12_mean : MethodName := ⟨RX12, "mean", "(I)V"⟩
abbrev cX12_choosesAt : ByteArray := prog_14_method_74_code
def yX12_choosesAt : MethodName := ⟨RX12, "choosesAt", "(I)V"⟩
abbrev cX12_within : ByteArray := prog_14_method_75_code
def yX12_within : MethodName := ⟨RX12, "within", "(III)J"⟩
abbrev cX12_aheadOf : ByteArray := prog_14_method_76_code
def yX12_aheadOf : MethodName := ⟨RX12, "aheadOf", "(I)I"⟩
abbrev cX12_all : ByteArray := prog_14_method_77_code
def yX12_all : MethodName := ⟨RX12, "all", "()I"⟩
abbrev cX12_forced : ByteArray := prog_14_method_78_code
def yX12_forced : MethodName := ⟨RX12, "forced", "(II)I"⟩
abbrev cX12_byBoth : ByteArray := prog_14_method_79_code
def yX12_byBoth : MethodName := ⟨RX12, "byBoth", "()V"⟩
abbrev cX12_from : ByteArray := prog_14_method_80_code
def yX12_from : MethodName := ⟨RX12, "from", "(I)I"⟩
abbrev cX12_ringOf : ByteArray := prog_14_method_81_code
def yX12_ringOf : MethodName := ⟨RX12, "ringOf", "(I)I"⟩
abbrev cX12_ring : ByteArray := prog_14_method_82_code
def yX12_ring : MethodName := ⟨RX12, "ring", "(I)I"⟩
abbrev cX12_rings : ByteArray := prog_14_method_83_code
def yX12_rings : MethodName := ⟨RX12, "rings", "()I"⟩
abbrev cX12_moves : ByteArray := prog_14_method_84_code
def yX12_moves : MethodName := ⟨RX12, "moves", "(II)J"⟩
abbrev cX12_paying : ByteArray := prog_14_method_85_code
def yX12_paying : MethodName := ⟨RX12, "paying", "()I"⟩
abbrev cX12_trap : ByteArray := prog_14_method_86_code
def yX12_trap : MethodName := ⟨RX12, "trap", "()I"⟩
abbrev cX12_surely : ByteArray := prog_14_method_87_code
def yX12_surely : MethodName := ⟨RX12, "surely", "()I"⟩
abbrev cX12_sure : ByteArray := prog_14_method_88_code
def yX12_sure : MethodName := ⟨RX12, "sure", "()I"⟩
abbrev cX12_soon : ByteArray := prog_14_method_89_code
def yX12_soon : MethodName := ⟨RX12, "soon", "(I)I"⟩
abbrev cX12_sets : ByteArray := prog_14_method_90_code
def yX12_sets : MethodName := ⟨RX12, "sets", "(II)I"⟩
abbrev cX12_rank : ByteArray := prog_14_method_91_code
def yX12_rank : MethodName := ⟨RX12, "rank", "(I)I"⟩
abbrev cX12_tells : ByteArray := prog_14_method_92_code
def yX12_tells : MethodName := ⟨RX12, "tells", "()Z"⟩
abbrev cX12_isAbove : ByteArray := prog_14_method_93_code
def yX12_isAbove : MethodName := ⟨RX12, "isAbove", "(I)Z"⟩
abbrev cX12_above : ByteArray := prog_14_method_94_code
def yX12_above : MethodName := ⟨RX12, "above", "()I"⟩
abbrev cX12_below : ByteArray := prog_14_method_95_code
def yX12_below : MethodName := ⟨RX12, "below", "()I"⟩
abbrev cX12_draw : ByteArray := prog_14_method_96_code
def yX12_draw : MethodName := ⟨RX12, "draw", "(I)I"⟩
abbrev cX12_drawnWay : ByteArray := prog_14_method_97_code
def yX12_drawnWay : MethodName := ⟨RX12, "drawnWay", "(I)I"⟩
abbrev cX12_playFrom : ByteArray := prog_14_method_98_code
def yX12_playFrom : MethodName := ⟨RX12, "playFrom", "(III)I"⟩
abbrev cX12_play : ByteArray := prog_14_method_99_code
def yX12_play : MethodName := ⟨RX12, "play", "(III)I"⟩
abbrev cX12_often : ByteArray := prog_14_method_100_code
def yX12_often : MethodName := ⟨RX12, "often", "(IIII)I"⟩
abbrev cX12_puts : ByteArray := prog_14_method_101_code
def yX12_puts : MethodName := ⟨RX12, "puts", "(I)V"⟩
abbrev cX12_putsWord : ByteArray := prog_14_method_102_code
def yX12_putsWord : MethodName := ⟨RX12, "putsWord", "(I)V"⟩
abbrev cX12_putsName : ByteArray := prog_14_method_103_code
def yX12_putsName : MethodName := ⟨RX12, "putsName", "(I)V"⟩
abbrev cX12_putsNumber : ByteArray := prog_14_method_104_code
def yX12_putsNumber : MethodName := ⟨RX12, "putsNumber", "(I)V"⟩
abbrev cX12_text : ByteArray := prog_14_method_105_code
def yX12_text : MethodName := ⟨RX12, "text", "()I"⟩
abbrev cX12_byteAt : ByteArray := prog_14_method_106_code
def yX12_byteAt : MethodName := ⟨RX12, "byteAt", "(I)I"⟩
abbrev cX12_count : ByteArray := prog_14_method_107_code
def yX12_count : MethodName := ⟨RX12, "count", "(I)I"⟩
def RJx145de : String := "java/io/Serializable"
def TJx145de : u_T := fun k => match k with
  | _ => ("", "", "", false)
def tyJx145de : Nat → FieldType := fun k => match k with
  | _ => .int
abbrev wsJx145de0 : List Cond := u_ws RJx145de TJx145de 0
theorem nmJx145de : ∀ a, a < 0 → ∀ b, b < 0 → a ≠ b → (TJx145de a).2.1 ≠ (TJx145de b).2.1 := by decide +kernel
theorem tyJx145de_ok : ∀ k, k < 0 → parseFieldDescriptor (TJx145de k).2.2.1 = some (tyJx145de k) := by decide +kernel
def RJx9f9b0 : String := "java/lang/CharSequence"
def TJx9f9b0 : u_T := fun k => match k with
  | _ => ("", "", "", false)
def tyJx9f9b0 : Nat → FieldType := fun k => match k with
  | _ => .int
abbrev wsJx9f9b00 : List Cond := u_ws RJx9f9b0 TJx9f9b0 0
theorem nmJx9f9b0 : ∀ a, a < 0 → ∀ b, b < 0 → a ≠ b → (TJx9f9b0 a).2.1 ≠ (TJx9f9b0 b).2.1 := by decide +kernel
theorem tyJx9f9b0_ok : ∀ k, k < 0 → parseFieldDescriptor (TJx9f9b0 k).2.2.1 = some (tyJx9f9b0 k) := by decide +kernel
def RJxb160c : String := "java/lang/Comparable"
def TJxb160c : u_T := fun k => match k with
  | _ => ("", "", "", false)
def tyJxb160c : Nat → FieldType := fun k => match k with
  | _ => .int
abbrev wsJxb160c0 : List Cond := u_ws RJxb160c TJxb160c 0
theorem nmJxb160c : ∀ a, a < 0 → ∀ b, b < 0 → a ≠ b → (TJxb160c a).2.1 ≠ (TJxb160c b).2.1 := by decide +kernel
theorem tyJxb160c_ok : ∀ k, k < 0 → parseFieldDescriptor (TJxb160c k).2.2.1 = some (tyJxb160c k) := by decide +kernel
def RJ0 : String := "java/lang/String"
def TJ0 : u_T := fun k => match k with
  | _ => ("", "", "", false)
def tyJ0 : Nat → FieldType := fun k => match k with
  | _ => .int
abbrev wsJ00 : List Cond := u_ws RJ0 TJ0 0
theorem nmJ0 : ∀ a, a < 0 → ∀ b, b < 0 → a ≠ b → (TJ0 a).2.1 ≠ (TJ0 b).2.1 := by decide +kernel
theorem tyJ0_ok : ∀ k, k < 0 → parseFieldDescriptor (TJ0 k).2.2.1 = some (tyJ0 k) := by decide +kernel
abbrev cJ0_length_8abf5 : ByteArray := prog_20_method_54_code
def yJ0_length_8abf5 : MethodName := ⟨RJ0, "length", "()I"⟩
abbrev cJ0_charAt_5068e : ByteArray := prog_20_method_56_code
def yJ0_charAt_5068e : MethodName := ⟨RJ0, "charAt", "(I)C"⟩
abbrev cJ0_coder_7d493 : ByteArray := prog_20_method_152_code
def yJ0_coder_7d493 : MethodName := ⟨RJ0, "coder", "()B"⟩
abbrev cJ0_isLatin1_aae02 : ByteArray := prog_20_method_154_code
def yJ0_isLatin1_aae02 : MethodName := ⟨RJ0, "isLatin1", "()Z"⟩
abbrev cJ0_checkIndex_df160 : ByteArray := prog_20_method_155_code
def yJ0_checkIndex_df160 : MethodName := ⟨RJ0, "checkIndex", "(II)V"⟩
def RJ1 : String := "java/lang/StringLatin1"
def TJ1 : u_T := fun k => match k with
  | _ => ("", "", "", false)
def tyJ1 : Nat → FieldType := fun k => match k with
  | _ => .int
abbrev wsJ10 : List Cond := u_ws RJ1 TJ1 0
theorem nmJ1 : ∀ a, a < 0 → ∀ b, b < 0 → a ≠ b → (TJ1 a).2.1 ≠ (TJ1 b).2.1 := by decide +kernel
theorem tyJ1_ok : ∀ k, k < 0 → parseFieldDescriptor (TJ1 k).2.2.1 = some (tyJ1 k) := by decide +kernel
abbrev cJ1_charAt_3b067 : ByteArray := prog_21_method_2_code
def yJ1_charAt_3b067 : MethodName := ⟨RJ1, "charAt", "([BI)C"⟩
def RJ2 : String := "java/lang/StringUTF16"
def TJ2 : u_T := fun k => match k with
  | _ => ("", "", "", false)
def tyJ2 : Nat → FieldType := fun k => match k with
  | _ => .int
abbrev wsJ20 : List Cond := u_ws RJ2 TJ2 0
theorem nmJ2 : ∀ a, a < 0 → ∀ b, b < 0 → a ≠ b → (TJ2 a).2.1 ≠ (TJ2 b).2.1 := by decide +kernel
theorem tyJ2_ok : ∀ k, k < 0 → parseFieldDescriptor (TJ2 k).2.2.1 = some (tyJ2 k) := by decide +kernel
abbrev cJ2_getChar_3b067 : ByteArray := prog_22_method_5_code
def yJ2_getChar_3b067 : MethodName := ⟨RJ2, "getChar", "([BI)C"⟩
abbrev cJ2_length_9d52b : ByteArray := prog_22_method_6_code
def yJ2_length_9d52b : MethodName := ⟨RJ2, "length", "([B)I"⟩
abbrev cJ2_charAt_3b067 : ByteArray := prog_22_method_83_code
def yJ2_charAt_3b067 : MethodName := ⟨RJ2, "charAt", "([BI)C"⟩
abbrev cJ2_checkIndex_2214a : ByteArray := prog_22_method_91_code
def yJ2_checkIndex_2214a : MethodName := ⟨RJ2, "checkIndex", "(I[B)V"⟩
def RJ10 : String := "java/lang/System"
def TJ10 : u_T := fun k => match k with
  | _ => ("", "", "", false)
def tyJ10 : Nat → FieldType := fun k => match k with
  | _ => .int
abbrev wsJ100 : List Cond := u_ws RJ10 TJ10 0
theorem nmJ10 : ∀ a, a < 0 → ∀ b, b < 0 → a ≠ b → (TJ10 a).2.1 ≠ (TJ10 b).2.1 := by decide +kernel
theorem tyJ10_ok : ∀ k, k < 0 → parseFieldDescriptor (TJ10 k).2.2.1 = some (tyJ10 k) := by decide +kernel
def RJxfd54e : String := "java/lang/constant/Constable"
def TJxfd54e : u_T := fun k => match k with
  | _ => ("", "", "", false)
def tyJxfd54e : Nat → FieldType := fun k => match k with
  | _ => .int
abbrev wsJxfd54e0 : List Cond := u_ws RJxfd54e TJxfd54e 0
theorem nmJxfd54e : ∀ a, a < 0 → ∀ b, b < 0 → a ≠ b → (TJxfd54e a).2.1 ≠ (TJxfd54e b).2.1 := by decide +kernel
theorem tyJxfd54e_ok : ∀ k, k < 0 → parseFieldDescriptor (TJxfd54e k).2.2.1 = some (tyJxfd54e k) := by decide +kernel
def RJx3cf43 : String := "java/lang/constant/ConstantDesc"
def TJx3cf43 : u_T := fun k => match k with
  | _ => ("", "", "", false)
def tyJx3cf43 : Nat → FieldType := fun k => match k with
  | _ => .int
abbrev wsJx3cf430 : List Cond := u_ws RJx3cf43 TJx3cf43 0
theorem nmJx3cf43 : ∀ a, a < 0 → ∀ b, b < 0 → a ≠ b → (TJx3cf43 a).2.1 ≠ (TJx3cf43 b).2.1 := by decide +kernel
theorem tyJx3cf43_ok : ∀ k, k < 0 → parseFieldDescriptor (TJx3cf43 k).2.2.1 = some (tyJx3cf43 k) := by decide +kernel
def RJ3 : String := "jdk/internal/util/Preconditions"
def TJ3 : u_T := fun k => match k with
  | _ => ("", "", "", false)
def tyJ3 : Nat → FieldType := fun k => match k with
  | _ => .int
abbrev wsJ30 : List Cond := u_ws RJ3 TJ3 0
theorem nmJ3 : ∀ a, a < 0 → ∀ b, b < 0 → a ≠ b → (TJ3 a).2.1 ≠ (TJ3 b).2.1 := by decide +kernel
theorem tyJ3_ok : ∀ k, k < 0 → parseFieldDescriptor (TJ3 k).2.2.1 = some (tyJ3 k) := by decide +kernel
abbrev cJ3_checkIndex_8e157 : ByteArray := prog_28_method_11_code
def yJ3_checkIndex_8e157 : MethodName := ⟨RJ3, "checkIndex", "(IILjava/util/function/BiFunction;)I"⟩
def RL : String := "ChanceRingsLaw"
abbrev cL_node : ByteArray := method_3_code
def yL_node : MethodName := ⟨RL, "node", "(LChanceRings;II[J)I"⟩
abbrev cL_way : ByteArray := method_4_code
def yL_way : MethodName := ⟨RL, "way", "(LChanceRings;III[J)I"⟩
abbrev cL_worth : ByteArray := method_5_code
def yL_worth : MethodName := ⟨RL, "worth", "(LChanceRings;II[J)I"⟩
abbrev cL_left : ByteArray := method_6_code
def yL_left : MethodName := ⟨RL, "left", "(LChanceRings;II[J)I"⟩
abbrev cL_stopped : ByteArray := method_7_code
def yL_stopped : MethodName := ⟨RL, "stopped", "(LChanceRings;III[J)I"⟩
abbrev cL_within : ByteArray := method_8_code
def yL_within : MethodName := ⟨RL, "within", "(LChanceRings;III[J)I"⟩
abbrev cL_moves : ByteArray := method_9_code
def yL_moves : MethodName := ⟨RL, "moves", "(LChanceRings;II[J)I"⟩
abbrev cL_law : ByteArray := code
def yL_law : MethodName := ⟨RL, "law", "([I)Z"⟩
abbrev vwCl : List vw_C := [(RX0, TX0, 3), (RX1, TX1, 3), (RX2, TX2, 8), (RX3, TX3, 10), (RX4, TX4, 10), (RX5, TX5, 1), (RX6, TX6, 4), (RX7, TX7, 5), (RX8, TX8, 2), (RX9, TX9, 2), (RX10, TX10, 2), (RX11, TX11, 18), (RX12, TX12, 35)]
/-- the good words of the tables: every contract's words -/
def wsL_law : List Cond := lw_tbl.filter goodWord
theorem wsL_law_in : ∀ w ∈ wsL_law, w ∈ lw_tbl := fun w h => (List.mem_filter.mp h).1
/-- the array classes: ints, longs, bytes, booleans, nets, rows of longs -/
abbrev TY (g : Nat → ClassId) : List (ClassId × FieldType) := [(g 0, .int), (g 1, .long), (g 2, .byte), (g 3, .boolean), (g 4, .object RX2), (g 5, .array .long)]
theorem tz_blS {D : va_G} {av : List Value} {w : va_W} {tys : List (ClassId × FieldType)} : FrameBlind (va_Pc av (fun U => va_P D vwCl w U.heap ∧ va_K D vwCl tys U)) := fun a U g mk q => by
  obtain ⟨q0, qP, qK⟩ := q
  exact ⟨q0, qP, va_K.moved (u := U) (U := U.calling g mk a) (Vm.Alike.refl U.vm) qK⟩
theorem tz_preS {D : va_G} {s : State} {H : Heap} {w : va_W} {tys : List (ClassId × FieldType)} {av : List Value} (hP : va_P D vwCl w H) (hK : va_K D vwCl tys s) : ∀ U : State, U.heap = H → s.WarmedH U.vm → va_Pc av (fun U => va_P D vwCl w U.heap ∧ va_K D vwCl tys U) av.toArray U := fun U hU hW => ⟨rfl, by rw [hU]; exact hP, va_K.moved hW.alike hK⟩
theorem tz_blQ {D : va_G} {av : List Value} {w : va_W} {tys : List (ClassId × FieldType)} {sz : Nat} : FrameBlind (va_Pc av (fun U => U.heap.size = sz ∧ va_P D vwCl w U.heap ∧ va_K D vwCl tys U ∧ va_D (fun _ => True) w)) := fun a U g mk q => by
  obtain ⟨q0, q1, qP, qK, qD⟩ := q
  exact ⟨q0, q1, qP, va_K.moved (u := U) (U := U.calling g mk a) (Vm.Alike.refl U.vm) qK, qD⟩
theorem tz_preQ {D : va_G} {s : State} {H : Heap} {w : va_W} {tys : List (ClassId × FieldType)} {av : List Value} {A : Nat → Prop} (hP : va_P D vwCl w H) (hK : va_K D vwCl tys s) (hD : va_D A w) : ∀ U : State, U.heap = H → s.WarmedH U.vm → va_Pc av (fun U => U.heap.size = H.size ∧ va_P D vwCl w U.heap ∧ va_K D vwCl tys U ∧ va_D (fun _ => True) w) av.toArray U := fun U hU hW => ⟨rfl, by rw [hU], by rw [hU]; exact hP, va_K.moved hW.alike hK, hD.weaken (fun _ _ _ _ => trivial)⟩
theorem tz_blQZ {D : va_G} {av : List Value} {w : va_W} {tys : List (ClassId × FieldType)} {sz : Nat} {Z : State → Prop} (hZ : ∀ u U : State, u.vm = U.vm → Z u → Z U) : FrameBlind (va_Pc av (fun U => U.heap.size = sz ∧ va_P D vwCl w U.heap ∧ va_K D vwCl tys U ∧ va_D (fun _ => True) w ∧ Z U)) := fun a U g mk q => by
  obtain ⟨q0, q1, qP, qK, qD, qZ⟩ := q
  exact ⟨q0, q1, qP, va_K.moved (u := U) (U := U.calling g mk a) (Vm.Alike.refl U.vm) qK, qD, hZ U (U.calling g mk a) rfl qZ⟩
theorem tz_preQZ {D : va_G} {s : State} {H : Heap} {w : va_W} {tys : List (ClassId × FieldType)} {av : List Value} {A : Nat → Prop} {Z : State → Prop} (hP : va_P D vwCl w H) (hK : va_K D vwCl tys s) (hD : va_D A w) (hZ : ∀ U : State, s.WarmedH U.vm → Z U) : ∀ U : State, U.heap = H → s.WarmedH U.vm → va_Pc av (fun U => U.heap.size = H.size ∧ va_P D vwCl w U.heap ∧ va_K D vwCl tys U ∧ va_D (fun _ => True) w ∧ Z U) av.toArray U := fun U hU hW => ⟨rfl, by rw [hU], by rw [hU]; exact hP, va_K.moved hW.alike hK, hD.weaken (fun _ _ _ _ => trivial), hZ U hW⟩
theorem tz_nilP {D : va_G} {H : Heap} : va_P D vwCl [] H := fun k q h => by simp at h
theorem tz_nilD {A : Nat → Prop} : va_D A [] := ⟨fun i j p q h => by simp at h, fun k q h => by simp at h⟩
theorem tz_in {i : Int32} {n : Nat} (h : (decide (i < 0) || decide (n ≤ i.toNatClampNeg)) = false) : vp_in i n := by
  intro q
  rcases q with q | q
  · simp [q] at h
  · simp [q] at h
section TZ
variable {p : Program} {l : Launch} {e : Env} {R : Room} {s : State} {m : MethodId} {args : Array Value} {below : List Frame} {meth : Method} {c : Code} {H : Heap} {locs : List Loc} {cells slots : Nat} {Q : State → Prop} {pc : Nat} {ls : Array Slot} {rest : List Value}
theorem tz_i {x y : Int32} (h : x = y) (k : W p l e R s m args below meth c H locs cells slots Q (F0 m pc ls (.int y :: rest))) : W p l e R s m args below meth c H locs cells slots Q (F0 m pc ls (.int x :: rest)) := by
  subst h
  exact k
theorem tz_l {x y : Int64} (h : x = y) (k : W p l e R s m args below meth c H locs cells slots Q (F0 m pc ls (.long y :: rest))) : W p l e R s m args below meth c H locs cells slots Q (F0 m pc ls (.long x :: rest)) := by
  subst h
  exact k
theorem tz_v {x y : Value} (h : x = y) (k : W p l e R s m args below meth c H locs cells slots Q (F0 m pc ls (y :: rest))) : W p l e R s m args below meth c H locs cells slots Q (F0 m pc ls (x :: rest)) := by
  subst h
  exact k
theorem va_ald2 {cc : ByteArray} {D : va_G} {cl : List vw_C} {ws : va_W} {tys : List (ClassId × FieldType)} {a : Nat} (hexec : p.tables.exec = Jvm.exec) (hb : c.code = cc) (hK : va_K D cl tys s) (hP : va_P D cl ws H) (q0 t0 : Nat) {cA : ClassId} {ty : FieldType} {n : Nat} {f : Nat → Option Nat} (ha : ws[q0]? = some (a, .inl (cA, n, .inr (.inr (.inr (.inr f)))))) (ht : tys[t0]? = some (cA, .array ty)) {i : Int32} (hin : vp_in i n) (hdg : decode cc pc = .ok (.aaload, 1))
    (kk : W p l e R s m args below meth c H locs cells slots Q (F0 m (pc + 1) ls (va_rf (f i.toNatClampNeg) :: rest))) : W p l e R s m args below meth c H locs cells slots Q (F0 m pc ls (.int i :: .ref a :: rest)) := by
  have hlt : i.toNatClampNeg < n := Nat.not_le.mp fun q => hin (Or.inr q)
  exact W.aald (v := va_rf (f i.toNatClampNeg)) (ty := .array ty) hexec hb (hP q0 _ ha) ((hK.2 t0 _ ht).1 n (fun j => va_rf (f j))) rfl (fun q => by cases q) (by show ¬ (i < 0 ∨ (arrV _ _ _).slots.size ≤ _); rw [arrV_size]; exact hin) (by show (arrV _ _ _).slots[_]? = _; rw [arrV_read _ _ hlt]) rfl rfl hdg kk
end TZ
theorem tz_row {r : Nat → Nat} {n k : Nat} {i : Int32} (hi : i.toNatClampNeg = k) (hk : k < n) : va_rf ((fun i => if i < n then some (r i) else none) i.toNatClampNeg) = .ref (r k) := by
  subst hi
  show va_rf (if _ < n then _ else _) = _
  rw [if_pos hk]
  rfl
theorem tz_big {x : Int32} {n : Nat} (h0 : ¬ x < 0) (h : ¬ vp_in x n) (hn : n < 2 ^ 31) : nI n ≤ x := by
  rw [vp_in_iff] at h
  rw [Int32.lt_iff_toInt_lt] at h0
  rw [Int32.le_iff_toInt_le, nI_toInt hn]
  have e : (0 : Int32).toInt = 0 := by decide
  omega
theorem tz_gt1 {x : Int32} (h0 : ¬ x < 0) (h : ¬ vp_in x 2) : 1 < x := Int32.lt_of_lt_of_le (by decide) (tz_big h0 h (by decide))
theorem tz_nlt2 {x : Int32} (h0 : ¬ x < 0) (h : ¬ vp_in x 2) : ¬ x < 2 := Int32.not_lt.mpr (tz_big h0 h (by decide))
theorem tz_gt0 {x : Int32} (h0 : ¬ x < 0) (h : ¬ x = 0) : 0 < x := Int32.lt_of_le_of_ne (Int32.not_lt.mp h0) (fun e => h e.symm)
theorem tz_gt2 {x : Int32} (h0 : ¬ x < 1) (h : ¬ x = 1 ∧ ¬ x = 2) : 2 < x := by
  rw [Int32.lt_iff_toInt_lt] at h0 ⊢
  have e1 : (1 : Int32).toInt = 1 := by decide
  have e2 : (2 : Int32).toInt = 2 := by decide
  have n1 : ¬ x.toInt = 1 := fun q => h.1 (Int32.toInt_inj.mp (q.trans e1.symm))
  have n2 : ¬ x.toInt = 2 := fun q => h.2 (Int32.toInt_inj.mp (q.trans e2.symm))
  omega
theorem tz_c2 (x : Int32) : x = 0 ∨ x = 1 ∨ ¬ vp_in x 2 := by
  by_cases h : vp_in x 2
  · obtain ⟨j, hj, rfl⟩ := vp_in_of h (by decide)
    rcases (show j = 0 ∨ j = 1 by omega) with rfl | rfl
    · exact Or.inl rfl
    · exact Or.inr (Or.inl rfl)
  · exact Or.inr (Or.inr h)
theorem tz_c3 (x : Int32) : x = 0 ∨ x = 1 ∨ x = 2 ∨ ¬ vp_in x 3 := by
  by_cases h : vp_in x 3
  · obtain ⟨j, hj, rfl⟩ := vp_in_of h (by decide)
    rcases (show j = 0 ∨ j = 1 ∨ j = 2 by omega) with rfl | rfl | rfl
    · exact Or.inl rfl
    · exact Or.inr (Or.inl rfl)
    · exact Or.inr (Or.inr (Or.inl rfl))
  · exact Or.inr (Or.inr (Or.inr h))
theorem tz_c8 (x : Int32) : x = 0 ∨ x = 1 ∨ x = 2 ∨ x = 3 ∨ x = 4 ∨ x = 5 ∨ x = 6 ∨ x = 7 ∨ ¬ vp_in x 8 := by
  by_cases h : vp_in x 8
  · obtain ⟨j, hj, rfl⟩ := vp_in_of h (by decide)
    rcases (show j = 0 ∨ j = 1 ∨ j = 2 ∨ j = 3 ∨ j = 4 ∨ j = 5 ∨ j = 6 ∨ j = 7 by omega) with rfl | rfl | rfl | rfl | rfl | rfl | rfl | rfl
    · exact Or.inl rfl
    · exact Or.inr (Or.inl rfl)
    · exact Or.inr (Or.inr (Or.inl rfl))
    · exact Or.inr (Or.inr (Or.inr (Or.inl rfl)))
    · exact Or.inr (Or.inr (Or.inr (Or.inr (Or.inl rfl))))
    · exact Or.inr (Or.inr (Or.inr (Or.inr (Or.inr (Or.inl rfl)))))
    · exact Or.inr (Or.inr (Or.inr (Or.inr (Or.inr (Or.inr (Or.inl rfl))))))
    · exact Or.inr (Or.inr (Or.inr (Or.inr (Or.inr (Or.inr (Or.inr (Or.inl rfl)))))))
  · exact Or.inr (Or.inr (Or.inr (Or.inr (Or.inr (Or.inr (Or.inr (Or.inr h)))))))
theorem tz_cp (x : Int32) : x = 1 ∨ x = 2 ∨ (¬ x = 1 ∧ ¬ x = 2) := by
  by_cases h : x = 1
  · exact Or.inl h
  · by_cases h2 : x = 2
    · exact Or.inr (Or.inl h2)
    · exact Or.inr (Or.inr ⟨h, h2⟩)
theorem tz_out {x : Int32} {n : Nat} (h : ¬ vp_in x n) : x.toInt < 0 ∨ ((n : Int) - 1) < x.toInt := by
  rw [vp_in_iff] at h
  omega
theorem tz_ne {x y : Int32} {n : Nat} (h : ¬ vp_in x n) (hy : vp_in y n) : ¬ x = y := fun e => h (by rw [e]; exact hy)
theorem tz_in_mono {x : Int32} {a b : Nat} (h : vp_in x a) (hab : a ≤ b) : vp_in x b := by
  rw [vp_in_iff] at h ⊢
  omega
theorem tz_eq {P : Prop} {a b r1 r2 : Int32} (h1 : (P → r1 = a) ∧ (¬ P → r1 = b)) (h2 : (P → r2 = a) ∧ (¬ P → r2 = b)) : r1 = r2 := by
  by_cases h : P
  · rw [h1.1 h, h2.1 h]
  · rw [h1.2 h, h2.2 h]
theorem tz_good : ∀ w ∈ wsL_law, goodWord w = true := fun w h => (List.mem_filter.mp h).2
theorem tz_gL : GoodIn wsL_law wsL_law := fun w h => ⟨h, good_of_word (tz_good w h)⟩
theorem tz_g1 {ws : List Cond} (h : ∀ w ∈ ws, w ∈ wsL_law) : GoodIn wsL_law ws := fun w hw => tz_gL w (h w hw)
theorem tz_gC {c : Cond} (h : c ∈ wsL_law) : GoodIn wsL_law (c :: wsL_law) := fun w hw => (List.mem_cons.mp hw).elim (fun e => by rw [e]; exact tz_gL _ h) (fun e => tz_gL _ e)
theorem tz_gV {own C : String} {i : Nat} {y : MethodName} {c : Cond} (h1 : Cond.methodLink own i y ∈ wsL_law) (h2 : Cond.instanceMethod y ∈ wsL_law) (h3 : Cond.selects C y y ∈ wsL_law) (h4 : Cond.initialized C ∈ wsL_law) (h5 : c ∈ wsL_law) : GoodIn wsL_law (wsV own i C y (c :: wsL_law)) := by
  refine goodIn_app (tz_g1 ?_) (tz_gC h5)
  intro w hw
  simp only [List.mem_cons, List.not_mem_nil, or_false] at hw
  rcases hw with e | e | e | e <;> (rw [e]; assumption)
theorem tz_gS {own : String} {i : Nat} {y : MethodName} {c : Cond} (h1 : Cond.methodLink own i y ∈ wsL_law) (h2 : Cond.static y ∈ wsL_law) (h3 : Cond.initialized y.cls ∈ wsL_law) (h5 : c ∈ wsL_law) : GoodIn wsL_law (va_wsS own i y (c :: wsL_law)) := by
  refine goodIn_app (tz_g1 ?_) (tz_gC h5)
  intro w hw
  simp only [List.mem_cons, List.not_mem_nil, or_false] at hw
  rcases hw with e | e | e <;> (rw [e]; assumption)
theorem tseg_1 {w : Cond} (hg : goodWord w = true) (h : w ∈ tables_1_1) : w ∈ wsL_law := List.mem_filter.mpr ⟨List.mem_append_right _ (List.mem_append_left _ h), hg⟩
theorem tseg_2 {w : Cond} (hg : goodWord w = true) (h : w ∈ tables_1_2) : w ∈ wsL_law := List.mem_filter.mpr ⟨List.mem_append_right _ (List.mem_append_right _ (List.mem_append_left _ h)), hg⟩
theorem tseg_3 {w : Cond} (hg : goodWord w = true) (h : w ∈ tables_1_3) : w ∈ wsL_law := List.mem_filter.mpr ⟨List.mem_append_right _ (List.mem_append_right _ (List.mem_append_right _ (List.mem_append_left _ h))), hg⟩
theorem tseg_4 {w : Cond} (hg : goodWord w = true) (h : w ∈ tables_1_4) : w ∈ wsL_law := List.mem_filter.mpr ⟨List.mem_append_right _ (List.mem_append_right _ (List.mem_append_right _ (List.mem_append_right _ (List.mem_append_left _ h)))), hg⟩
theorem tseg_5 {w : Cond} (hg : goodWord w = true) (h : w ∈ tables_1_5) : w ∈ wsL_law := List.mem_filter.mpr ⟨List.mem_append_right _ (List.mem_append_right _ (List.mem_append_right _ (List.mem_append_right _ (List.mem_append_right _ (List.mem_append_left _ h))))), hg⟩
theorem tseg_6 {w : Cond} (hg : goodWord w = true) (h : w ∈ tables_1_6) : w ∈ wsL_law := List.mem_filter.mpr ⟨List.mem_append_right _ (List.mem_append_right _ (List.mem_append_right _ (List.mem_append_right _ (List.mem_append_right _ (List.mem_append_right _ (List.mem_append_left _ h)))))), hg⟩
theorem tseg_7 {w : Cond} (hg : goodWord w = true) (h : w ∈ tables_1_7) : w ∈ wsL_law := List.mem_filter.mpr ⟨List.mem_append_right _ (List.mem_append_right _ (List.mem_append_right _ (List.mem_append_right _ (List.mem_append_right _ (List.mem_append_right _ (List.mem_append_right _ (h))))))), hg⟩
theorem fX0_0 : u_lay RX0 TX0 0 ∈ wsL_law := tseg_2 (by decide +kernel) (List.mem_of_getElem? (i := 54) rfl)
theorem fX0_1 : u_lay RX0 TX0 1 ∈ wsL_law := tseg_2 (by decide +kernel) (List.mem_of_getElem? (i := 56) rfl)
theorem fX0_2 : u_lay RX0 TX0 2 ∈ wsL_law := tseg_2 (by decide +kernel) (List.mem_of_getElem? (i := 58) rfl)
theorem inlX0 : ∀ w ∈ wsX00, w ∈ wsL_law := by
  intro w h
  obtain ⟨k, hk, rfl⟩ := List.mem_map.mp h
  have hk := List.mem_range.mp hk
  rcases (show k = 0 ∨ k = 1 ∨ k = 2 by omega) with rfl | rfl | rfl
  · exact fX0_0
  · exact fX0_1
  · exact fX0_2
theorem fX1_0 : u_lay RX1 TX1 0 ∈ wsL_law := tseg_2 (by decide +kernel) (List.mem_of_getElem? (i := 43) rfl)
theorem fX1_1 : u_lay RX1 TX1 1 ∈ wsL_law := tseg_2 (by decide +kernel) (List.mem_of_getElem? (i := 45) rfl)
theorem fX1_2 : u_lay RX1 TX1 2 ∈ wsL_law := tseg_2 (by decide +kernel) (List.mem_of_getElem? (i := 47) rfl)
theorem inlX1 : ∀ w ∈ wsX10, w ∈ wsL_law := by
  intro w h
  obtain ⟨k, hk, rfl⟩ := List.mem_map.mp h
  have hk := List.mem_range.mp hk
  rcases (show k = 0 ∨ k = 1 ∨ k = 2 by omega) with rfl | rfl | rfl
  · exact fX1_0
  · exact fX1_1
  · exact fX1_2
theorem fX2_0 : u_lay RX2 TX2 0 ∈ wsL_law := tseg_1 (by decide +kernel) (List.mem_of_getElem? (i := 92) rfl)
theorem fX2_1 : u_lay RX2 TX2 1 ∈ wsL_law := tseg_1 (by decide +kernel) (List.mem_of_getElem? (i := 94) rfl)
theorem fX2_2 : u_lay RX2 TX2 2 ∈ wsL_law := tseg_1 (by decide +kernel) (List.mem_of_getElem? (i := 96) rfl)
theorem fX2_3 : u_lay RX2 TX2 3 ∈ wsL_law := tseg_1 (by decide +kernel) (List.mem_of_getElem? (i := 98) rfl)
theorem fX2_4 : u_lay RX2 TX2 4 ∈ wsL_law := tseg_1 (by decide +kernel) (List.mem_of_getElem? (i := 100) rfl)
theorem fX2_5 : u_lay RX2 TX2 5 ∈ wsL_law := tseg_1 (by decide +kernel) (List.mem_of_getElem? (i := 102) rfl)
theorem fX2_6 : u_lay RX2 TX2 6 ∈ wsL_law := tseg_1 (by decide +kernel) (List.mem_of_getElem? (i := 104) rfl)
theorem fX2_7 : u_lay RX2 TX2 7 ∈ wsL_law := tseg_1 (by decide +kernel) (List.mem_of_getElem? (i := 106) rfl)
theorem inlX2 : ∀ w ∈ wsX20, w ∈ wsL_law := by
  intro w h
  obtain ⟨k, hk, rfl⟩ := List.mem_map.mp h
  have hk := List.mem_range.mp hk
  rcases (show k = 0 ∨ k = 1 ∨ k = 2 ∨ k = 3 ∨ k = 4 ∨ k = 5 ∨ k = 6 ∨ k = 7 by omega) with rfl | rfl | rfl | rfl | rfl | rfl | rfl | rfl
  · exact fX2_0
  · exact fX2_1
  · exact fX2_2
  · exact fX2_3
  · exact fX2_4
  · exact fX2_5
  · exact fX2_6
  · exact fX2_7
theorem fX3_0 : u_lay RX3 TX3 0 ∈ wsL_law := tseg_2 (by decide +kernel) (List.mem_of_getElem? (i := 117) rfl)
theorem fX3_1 : u_lay RX3 TX3 1 ∈ wsL_law := tseg_2 (by decide +kernel) (List.mem_of_getElem? (i := 119) rfl)
theorem fX3_2 : u_lay RX3 TX3 2 ∈ wsL_law := tseg_2 (by decide +kernel) (List.mem_of_getElem? (i := 121) rfl)
theorem fX3_3 : u_lay RX3 TX3 3 ∈ wsL_law := tseg_2 (by decide +kernel) (List.mem_of_getElem? (i := 123) rfl)
theorem fX3_4 : u_lay RX3 TX3 4 ∈ wsL_law := tseg_2 (by decide +kernel) (List.mem_of_getElem? (i := 125) rfl)
theorem fX3_5 : u_lay RX3 TX3 5 ∈ wsL_law := tseg_2 (by decide +kernel) (List.mem_of_getElem? (i := 127) rfl)
theorem fX3_6 : u_lay RX3 TX3 6 ∈ wsL_law := tseg_2 (by decide +kernel) (List.mem_of_getElem? (i := 129) rfl)
theorem fX3_7 : u_lay RX3 TX3 7 ∈ wsL_law := tseg_2 (by decide +kernel) (List.mem_of_getElem? (i := 131) rfl)
theorem fX3_8 : u_lay RX3 TX3 8 ∈ wsL_law := tseg_2 (by decide +kernel) (List.mem_of_getElem? (i := 133) rfl)
theorem fX3_9 : u_lay RX3 TX3 9 ∈ wsL_law := tseg_2 (by decide +kernel) (List.mem_of_getElem? (i := 135) rfl)
theorem inlX3 : ∀ w ∈ wsX30, w ∈ wsL_law := by
  intro w h
  obtain ⟨k, hk, rfl⟩ := List.mem_map.mp h
  have hk := List.mem_range.mp hk
  rcases (show k = 0 ∨ k = 1 ∨ k = 2 ∨ k = 3 ∨ k = 4 ∨ k = 5 ∨ k = 6 ∨ k = 7 ∨ k = 8 ∨ k = 9 by omega) with rfl | rfl | rfl | rfl | rfl | rfl | rfl | rfl | rfl | rfl
  · exact fX3_0
  · exact fX3_1
  · exact fX3_2
  · exact fX3_3
  · exact fX3_4
  · exact fX3_5
  · exact fX3_6
  · exact fX3_7
  · exact fX3_8
  · exact fX3_9
theorem fX4_0 : u_lay RX4 TX4 0 ∈ wsL_law := tseg_1 (by decide +kernel) (List.mem_of_getElem? (i := 186) rfl)
theorem fX4_1 : u_lay RX4 TX4 1 ∈ wsL_law := tseg_1 (by decide +kernel) (List.mem_of_getElem? (i := 188) rfl)
theorem fX4_2 : u_lay RX4 TX4 2 ∈ wsL_law := tseg_1 (by decide +kernel) (List.mem_of_getElem? (i := 190) rfl)
theorem fX4_3 : u_lay RX4 TX4 3 ∈ wsL_law := tseg_1 (by decide +kernel) (List.mem_of_getElem? (i := 192) rfl)
theorem fX4_4 : u_lay RX4 TX4 4 ∈ wsL_law := tseg_1 (by decide +kernel) (List.mem_of_getElem? (i := 194) rfl)
theorem fX4_5 : u_lay RX4 TX4 5 ∈ wsL_law := tseg_1 (by decide +kernel) (List.mem_of_getElem? (i := 196) rfl)
theorem fX4_6 : u_lay RX4 TX4 6 ∈ wsL_law := tseg_1 (by decide +kernel) (List.mem_of_getElem? (i := 198) rfl)
theorem fX4_7 : u_lay RX4 TX4 7 ∈ wsL_law := tseg_1 (by decide +kernel) (List.mem_of_getElem? (i := 200) rfl)
theorem fX4_8 : u_lay RX4 TX4 8 ∈ wsL_law := tseg_1 (by decide +kernel) (List.mem_of_getElem? (i := 202) rfl)
theorem fX4_9 : u_lay RX4 TX4 9 ∈ wsL_law := tseg_1 (by decide +kernel) (List.mem_of_getElem? (i := 204) rfl)
theorem inlX4 : ∀ w ∈ wsX40, w ∈ wsL_law := by
  intro w h
  obtain ⟨k, hk, rfl⟩ := List.mem_map.mp h
  have hk := List.mem_range.mp hk
  rcases (show k = 0 ∨ k = 1 ∨ k = 2 ∨ k = 3 ∨ k = 4 ∨ k = 5 ∨ k = 6 ∨ k = 7 ∨ k = 8 ∨ k = 9 by omega) with rfl | rfl | rfl | rfl | rfl | rfl | rfl | rfl | rfl | rfl
  · exact fX4_0
  · exact fX4_1
  · exact fX4_2
  · exact fX4_3
  · exact fX4_4
  · exact fX4_5
  · exact fX4_6
  · exact fX4_7
  · exact fX4_8
  · exact fX4_9
theorem fX5_0 : u_lay RX5 TX5 0 ∈ wsL_law := tseg_2 (by decide +kernel) (List.mem_of_getElem? (i := 14) rfl)
theorem inlX5 : ∀ w ∈ wsX50, w ∈ wsL_law := by
  intro w h
  obtain ⟨k, hk, rfl⟩ := List.mem_map.mp h
  have hk := List.mem_range.mp hk
  obtain rfl : k = 0 := by omega
  exact fX5_0
theorem fX6_0 : u_lay RX6 TX6 0 ∈ wsL_law := tseg_2 (by decide +kernel) (List.mem_of_getElem? (i := 66) rfl)
theorem fX6_1 : u_lay RX6 TX6 1 ∈ wsL_law := tseg_2 (by decide +kernel) (List.mem_of_getElem? (i := 68) rfl)
theorem fX6_2 : u_lay RX6 TX6 2 ∈ wsL_law := tseg_2 (by decide +kernel) (List.mem_of_getElem? (i := 70) rfl)
theorem fX6_3 : u_lay RX6 TX6 3 ∈ wsL_law := tseg_2 (by decide +kernel) (List.mem_of_getElem? (i := 72) rfl)
theorem inlX6 : ∀ w ∈ wsX60, w ∈ wsL_law := by
  intro w h
  obtain ⟨k, hk, rfl⟩ := List.mem_map.mp h
  have hk := List.mem_range.mp hk
  rcases (show k = 0 ∨ k = 1 ∨ k = 2 ∨ k = 3 by omega) with rfl | rfl | rfl | rfl
  · exact fX6_0
  · exact fX6_1
  · exact fX6_2
  · exact fX6_3
theorem fX7_0 : u_lay RX7 TX7 0 ∈ wsL_law := tseg_1 (by decide +kernel) (List.mem_of_getElem? (i := 221) rfl)
theorem fX7_1 : u_lay RX7 TX7 1 ∈ wsL_law := tseg_1 (by decide +kernel) (List.mem_of_getElem? (i := 223) rfl)
theorem fX7_2 : u_lay RX7 TX7 2 ∈ wsL_law := tseg_1 (by decide +kernel) (List.mem_of_getElem? (i := 225) rfl)
theorem fX7_3 : u_lay RX7 TX7 3 ∈ wsL_law := tseg_1 (by decide +kernel) (List.mem_of_getElem? (i := 227) rfl)
theorem fX7_4 : u_lay RX7 TX7 4 ∈ wsL_law := tseg_1 (by decide +kernel) (List.mem_of_getElem? (i := 229) rfl)
theorem inlX7 : ∀ w ∈ wsX70, w ∈ wsL_law := by
  intro w h
  obtain ⟨k, hk, rfl⟩ := List.mem_map.mp h
  have hk := List.mem_range.mp hk
  rcases (show k = 0 ∨ k = 1 ∨ k = 2 ∨ k = 3 ∨ k = 4 by omega) with rfl | rfl | rfl | rfl | rfl
  · exact fX7_0
  · exact fX7_1
  · exact fX7_2
  · exact fX7_3
  · exact fX7_4
theorem fX8_0 : u_lay RX8 TX8 0 ∈ wsL_law := tseg_1 (by decide +kernel) (List.mem_of_getElem? (i := 42) rfl)
theorem fX8_1 : u_lay RX8 TX8 1 ∈ wsL_law := tseg_1 (by decide +kernel) (List.mem_of_getElem? (i := 44) rfl)
theorem inlX8 : ∀ w ∈ wsX80, w ∈ wsL_law := by
  intro w h
  obtain ⟨k, hk, rfl⟩ := List.mem_map.mp h
  have hk := List.mem_range.mp hk
  rcases (show k = 0 ∨ k = 1 by omega) with rfl | rfl
  · exact fX8_0
  · exact fX8_1
theorem fX9_0 : u_lay RX9 TX9 0 ∈ wsL_law := tseg_2 (by decide +kernel) (List.mem_of_getElem? (i := 2) rfl)
theorem fX9_1 : u_lay RX9 TX9 1 ∈ wsL_law := tseg_2 (by decide +kernel) (List.mem_of_getElem? (i := 4) rfl)
theorem inlX9 : ∀ w ∈ wsX90, w ∈ wsL_law := by
  intro w h
  obtain ⟨k, hk, rfl⟩ := List.mem_map.mp h
  have hk := List.mem_range.mp hk
  rcases (show k = 0 ∨ k = 1 by omega) with rfl | rfl
  · exact fX9_0
  · exact fX9_1
theorem fX10_0 : u_lay RX10 TX10 0 ∈ wsL_law := tseg_2 (by decide +kernel) (List.mem_of_getElem? (i := 96) rfl)
theorem fX10_1 : u_lay RX10 TX10 1 ∈ wsL_law := tseg_2 (by decide +kernel) (List.mem_of_getElem? (i := 98) rfl)
theorem inlX10 : ∀ w ∈ wsX100, w ∈ wsL_law := by
  intro w h
  obtain ⟨k, hk, rfl⟩ := List.mem_map.mp h
  have hk := List.mem_range.mp hk
  rcases (show k = 0 ∨ k = 1 by omega) with rfl | rfl
  · exact fX10_0
  · exact fX10_1
theorem fX11_0 : u_lay RX11 TX11 0 ∈ wsL_law := tseg_2 (by decide +kernel) (List.mem_of_getElem? (i := 158) rfl)
theorem fX11_1 : u_lay RX11 TX11 1 ∈ wsL_law := tseg_2 (by decide +kernel) (List.mem_of_getElem? (i := 160) rfl)
theorem fX11_2 : u_lay RX11 TX11 2 ∈ wsL_law := tseg_2 (by decide +kernel) (List.mem_of_getElem? (i := 162) rfl)
theorem fX11_3 : u_lay RX11 TX11 3 ∈ wsL_law := tseg_2 (by decide +kernel) (List.mem_of_getElem? (i := 164) rfl)
theorem fX11_4 : u_lay RX11 TX11 4 ∈ wsL_law := tseg_2 (by decide +kernel) (List.mem_of_getElem? (i := 166) rfl)
theorem fX11_5 : u_lay RX11 TX11 5 ∈ wsL_law := tseg_2 (by decide +kernel) (List.mem_of_getElem? (i := 168) rfl)
theorem fX11_6 : u_lay RX11 TX11 6 ∈ wsL_law := tseg_2 (by decide +kernel) (List.mem_of_getElem? (i := 170) rfl)
theorem fX11_7 : u_lay RX11 TX11 7 ∈ wsL_law := tseg_2 (by decide +kernel) (List.mem_of_getElem? (i := 172) rfl)
theorem fX11_8 : u_lay RX11 TX11 8 ∈ wsL_law := tseg_2 (by decide +kernel) (List.mem_of_getElem? (i := 174) rfl)
theorem fX11_9 : u_lay RX11 TX11 9 ∈ wsL_law := tseg_2 (by decide +kernel) (List.mem_of_getElem? (i := 176) rfl)
theorem fX11_10 : u_lay RX11 TX11 10 ∈ wsL_law := tseg_2 (by decide +kernel) (List.mem_of_getElem? (i := 178) rfl)
theorem fX11_11 : u_lay RX11 TX11 11 ∈ wsL_law := tseg_2 (by decide +kernel) (List.mem_of_getElem? (i := 180) rfl)
theorem fX11_12 : u_lay RX11 TX11 12 ∈ wsL_law := tseg_2 (by decide +kernel) (List.mem_of_getElem? (i := 182) rfl)
theorem fX11_13 : u_lay RX11 TX11 13 ∈ wsL_law := tseg_2 (by decide +kernel) (List.mem_of_getElem? (i := 184) rfl)
theorem fX11_14 : u_lay RX11 TX11 14 ∈ wsL_law := tseg_2 (by decide +kernel) (List.mem_of_getElem? (i := 186) rfl)
theorem fX11_15 : u_lay RX11 TX11 15 ∈ wsL_law := tseg_2 (by decide +kernel) (List.mem_of_getElem? (i := 188) rfl)
theorem fX11_16 : u_lay RX11 TX11 16 ∈ wsL_law := tseg_2 (by decide +kernel) (List.mem_of_getElem? (i := 190) rfl)
theorem fX11_17 : u_lay RX11 TX11 17 ∈ wsL_law := tseg_2 (by decide +kernel) (List.mem_of_getElem? (i := 192) rfl)
theorem inlX11 : ∀ w ∈ wsX110, w ∈ wsL_law := by
  intro w h
  obtain ⟨k, hk, rfl⟩ := List.mem_map.mp h
  have hk := List.mem_range.mp hk
  rcases (show k = 0 ∨ k = 1 ∨ k = 2 ∨ k = 3 ∨ k = 4 ∨ k = 5 ∨ k = 6 ∨ k = 7 ∨ k = 8 ∨ k = 9 ∨ k = 10 ∨ k = 11 ∨ k = 12 ∨ k = 13 ∨ k = 14 ∨ k = 15 ∨ k = 16 ∨ k = 17 by omega) with rfl | rfl | rfl | rfl | rfl | rfl | rfl | rfl | rfl | rfl | rfl | rfl | rfl | rfl | rfl | rfl | rfl | rfl
  · exact fX11_0
  · exact fX11_1
  · exact fX11_2
  · exact fX11_3
  · exact fX11_4
  · exact fX11_5
  · exact fX11_6
  · exact fX11_7
  · exact fX11_8
  · exact fX11_9
  · exact fX11_10
  · exact fX11_11
  · exact fX11_12
  · exact fX11_13
  · exact fX11_14
  · exact fX11_15
  · exact fX11_16
  · exact fX11_17
theorem fX12_0 : u_lay RX12 TX12 0 ∈ wsL_law := tseg_5 (by decide +kernel) (List.mem_of_getElem? (i := 162) rfl)
theorem fX12_1 : u_lay RX12 TX12 1 ∈ wsL_law := tseg_5 (by decide +kernel) (List.mem_of_getElem? (i := 164) rfl)
theorem fX12_2 : u_lay RX12 TX12 2 ∈ wsL_law := tseg_5 (by decide +kernel) (List.mem_of_getElem? (i := 166) rfl)
theorem fX12_3 : u_lay RX12 TX12 3 ∈ wsL_law := tseg_5 (by decide +kernel) (List.mem_of_getElem? (i := 168) rfl)
theorem fX12_4 : u_lay RX12 TX12 4 ∈ wsL_law := tseg_5 (by decide +kernel) (List.mem_of_getElem? (i := 170) rfl)
theorem fX12_5 : u_lay RX12 TX12 5 ∈ wsL_law := tseg_5 (by decide +kernel) (List.mem_of_getElem? (i := 172) rfl)
theorem fX12_6 : u_lay RX12 TX12 6 ∈ wsL_law := tseg_5 (by decide +kernel) (List.mem_of_getElem? (i := 174) rfl)
theorem fX12_7 : u_lay RX12 TX12 7 ∈ wsL_law := tseg_5 (by decide +kernel) (List.mem_of_getElem? (i := 176) rfl)
theorem fX12_8 : u_lay RX12 TX12 8 ∈ wsL_law := tseg_5 (by decide +kernel) (List.mem_of_getElem? (i := 178) rfl)
theorem fX12_9 : u_lay RX12 TX12 9 ∈ wsL_law := tseg_5 (by decide +kernel) (List.mem_of_getElem? (i := 180) rfl)
theorem fX12_10 : u_lay RX12 TX12 10 ∈ wsL_law := tseg_5 (by decide +kernel) (List.mem_of_getElem? (i := 182) rfl)
theorem fX12_11 : u_lay RX12 TX12 11 ∈ wsL_law := tseg_5 (by decide +kernel) (List.mem_of_getElem? (i := 184) rfl)
theorem fX12_12 : u_lay RX12 TX12 12 ∈ wsL_law := tseg_5 (by decide +kernel) (List.mem_of_getElem? (i := 186) rfl)
theorem fX12_13 : u_lay RX12 TX12 13 ∈ wsL_law := tseg_5 (by decide +kernel) (List.mem_of_getElem? (i := 188) rfl)
theorem fX12_14 : u_lay RX12 TX12 14 ∈ wsL_law := tseg_5 (by decide +kernel) (List.mem_of_getElem? (i := 190) rfl)
theorem fX12_15 : u_lay RX12 TX12 15 ∈ wsL_law := tseg_5 (by decide +kernel) (List.mem_of_getElem? (i := 192) rfl)
theorem fX12_16 : u_lay RX12 TX12 16 ∈ wsL_law := tseg_5 (by decide +kernel) (List.mem_of_getElem? (i := 194) rfl)
theorem fX12_17 : u_lay RX12 TX12 17 ∈ wsL_law := tseg_5 (by decide +kernel) (List.mem_of_getElem? (i := 196) rfl)
theorem fX12_18 : u_lay RX12 TX12 18 ∈ wsL_law := tseg_5 (by decide +kernel) (List.mem_of_getElem? (i := 198) rfl)
theorem fX12_19 : u_lay RX12 TX12 19 ∈ wsL_law := tseg_5 (by decide +kernel) (List.mem_of_getElem? (i := 200) rfl)
theorem fX12_20 : u_lay RX12 TX12 20 ∈ wsL_law := tseg_5 (by decide +kernel) (List.mem_of_getElem? (i := 202) rfl)
theorem fX12_21 : u_lay RX12 TX12 21 ∈ wsL_law := tseg_5 (by decide +kernel) (List.mem_of_getElem? (i := 204) rfl)
theorem fX12_22 : u_lay RX12 TX12 22 ∈ wsL_law := tseg_5 (by decide +kernel) (List.mem_of_getElem? (i := 206) rfl)
theorem fX12_23 : u_lay RX12 TX12 23 ∈ wsL_law := tseg_5 (by decide +kernel) (List.mem_of_getElem? (i := 208) rfl)
theorem fX12_24 : u_lay RX12 TX12 24 ∈ wsL_law := tseg_5 (by decide +kernel) (List.mem_of_getElem? (i := 210) rfl)
theorem fX12_25 : u_lay RX12 TX12 25 ∈ wsL_law := tseg_5 (by decide +kernel) (List.mem_of_getElem? (i := 212) rfl)
theorem fX12_26 : u_lay RX12 TX12 26 ∈ wsL_law := tseg_5 (by decide +kernel) (List.mem_of_getElem? (i := 214) rfl)
theorem fX12_27 : u_lay RX12 TX12 27 ∈ wsL_law := tseg_5 (by decide +kernel) (List.mem_of_getElem? (i := 216) rfl)
theorem fX12_28 : u_lay RX12 TX12 28 ∈ wsL_law := tseg_5 (by decide +kernel) (List.mem_of_getElem? (i := 218) rfl)
theorem fX12_29 : u_lay RX12 TX12 29 ∈ wsL_law := tseg_5 (by decide +kernel) (List.mem_of_getElem? (i := 220) rfl)
theorem fX12_30 : u_lay RX12 TX12 30 ∈ wsL_law := tseg_5 (by decide +kernel) (List.mem_of_getElem? (i := 222) rfl)
theorem fX12_31 : u_lay RX12 TX12 31 ∈ wsL_law := tseg_5 (by decide +kernel) (List.mem_of_getElem? (i := 224) rfl)
theorem fX12_32 : u_lay RX12 TX12 32 ∈ wsL_law := tseg_5 (by decide +kernel) (List.mem_of_getElem? (i := 226) rfl)
theorem fX12_33 : u_lay RX12 TX12 33 ∈ wsL_law := tseg_5 (by decide +kernel) (List.mem_of_getElem? (i := 228) rfl)
theorem fX12_34 : u_lay RX12 TX12 34 ∈ wsL_law := tseg_5 (by decide +kernel) (List.mem_of_getElem? (i := 230) rfl)
theorem inlX12 : ∀ w ∈ wsX120, w ∈ wsL_law := by
  intro w h
  obtain ⟨k, hk, rfl⟩ := List.mem_map.mp h
  have hk := List.mem_range.mp hk
  rcases (show k = 0 ∨ k = 1 ∨ k = 2 ∨ k = 3 ∨ k = 4 ∨ k = 5 ∨ k = 6 ∨ k = 7 ∨ k = 8 ∨ k = 9 ∨ k = 10 ∨ k = 11 ∨ k = 12 ∨ k = 13 ∨ k = 14 ∨ k = 15 ∨ k = 16 ∨ k = 17 ∨ k = 18 ∨ k = 19 ∨ k = 20 ∨ k = 21 ∨ k = 22 ∨ k = 23 ∨ k = 24 ∨ k = 25 ∨ k = 26 ∨ k = 27 ∨ k = 28 ∨ k = 29 ∨ k = 30 ∨ k = 31 ∨ k = 32 ∨ k = 33 ∨ k = 34 by omega) with rfl | rfl | rfl | rfl | rfl | rfl | rfl | rfl | rfl | rfl | rfl | rfl | rfl | rfl | rfl | rfl | rfl | rfl | rfl | rfl | rfl | rfl | rfl | rfl | rfl | rfl | rfl | rfl | rfl | rfl | rfl | rfl | rfl | rfl | rfl
  · exact fX12_0
  · exact fX12_1
  · exact fX12_2
  · exact fX12_3
  · exact fX12_4
  · exact fX12_5
  · exact fX12_6
  · exact fX12_7
  · exact fX12_8
  · exact fX12_9
  · exact fX12_10
  · exact fX12_11
  · exact fX12_12
  · exact fX12_13
  · exact fX12_14
  · exact fX12_15
  · exact fX12_16
  · exact fX12_17
  · exact fX12_18
  · exact fX12_19
  · exact fX12_20
  · exact fX12_21
  · exact fX12_22
  · exact fX12_23
  · exact fX12_24
  · exact fX12_25
  · exact fX12_26
  · exact fX12_27
  · exact fX12_28
  · exact fX12_29
  · exact fX12_30
  · exact fX12_31
  · exact fX12_32
  · exact fX12_33
  · exact fX12_34
abbrev wI (g : Nat → ClassId) (a k n : Nat) (f : Nat → Int32) : Nat × va_E := (a, .inl (g k, n, .inl f))
abbrev wJ (g : Nat → ClassId) (a k n : Nat) (f : Nat → Int64) : Nat × va_E := (a, .inl (g k, n, .inr (.inl f)))
abbrev wR (g : Nat → ClassId) (a k n : Nat) (f : Nat → Option Nat) : Nat × va_E := (a, .inl (g k, n, .inr (.inr (.inr (.inr f)))))
abbrev wO0 (a : Nat) (x0 : Nat) (x1 : Nat) (x2 : Nat) : Nat × va_E := (a, .inr (0, [.ref x0, .ref x1, .ref x2]))
abbrev wO1 (a : Nat) (x0 : Nat) (x1 : Nat) (x2 : Int64) : Nat × va_E := (a, .inr (1, [.ref x0, .ref x1, .long x2]))
abbrev wO2 (a : Nat) (x0 : Int32) (x1 : Nat) (x2 : Nat) (x3 : Nat) (x4 : Nat) (x5 : Nat) (x6 : Nat) (x7 : Nat) : Nat × va_E := (a, .inr (2, [.int x0, .ref x1, .ref x2, .ref x3, .ref x4, .ref x5, .ref x6, .ref x7]))
abbrev wO3 (a : Nat) (x0 : Nat) (x1 : Nat) (x2 : Nat) (x3 : Nat) (x4 : Nat) (x5 : Nat) (x6 : Nat) (x7 : Int32) (x8 : Int32) (x9 : Int32) : Nat × va_E := (a, .inr (3, [.ref x0, .ref x1, .ref x2, .ref x3, .ref x4, .ref x5, .ref x6, .int x7, .int x8, .int x9]))
abbrev wO4 (a : Nat) (x0 : Nat) (x1 : Nat) (x2 : Nat) (x3 : Int32) (x4 : Int32) (x5 : Int32) (x6 : Int32) (x7 : Int32) (x8 : Int32) (x9 : Int32) : Nat × va_E := (a, .inr (4, [.ref x0, .ref x1, .ref x2, .int x3, .int x4, .int x5, .int x6, .int x7, .int x8, .int x9]))
abbrev wO5 (a : Nat) (x0 : Nat) : Nat × va_E := (a, .inr (5, [.ref x0]))
abbrev wO6 (a : Nat) (x0 : Nat) (x1 : Nat) (x2 : Nat) (x3 : Nat) : Nat × va_E := (a, .inr (6, [.ref x0, .ref x1, .ref x2, .ref x3]))
abbrev wO7 (a : Nat) (x0 : Nat) (x1 : Nat) (x2 : Nat) (x3 : Nat) (x4 : Int32) : Nat × va_E := (a, .inr (7, [.ref x0, .ref x1, .ref x2, .ref x3, .int x4]))
abbrev wO8 (a : Nat) (x0 : Nat) (x1 : Int32) : Nat × va_E := (a, .inr (8, [.ref x0, .int x1]))
abbrev wO9 (a : Nat) (x0 : Nat) (x1 : Int32) : Nat × va_E := (a, .inr (9, [.ref x0, .int x1]))
abbrev wO10 (a : Nat) (x0 : Nat) (x1 : Int64) : Nat × va_E := (a, .inr (10, [.ref x0, .long x1]))
abbrev wO11 (a : Nat) (x0 : Nat) (x1 : Nat) (x2 : Nat) (x3 : Nat) (x4 : Nat) (x5 : Nat) (x6 : Nat) (x7 : Nat) (x8 : Nat) (x9 : Nat) (x10 : Nat) (x11 : Nat) (x12 : Nat) (x13 : Int32) (x14 : Nat) (x15 : Nat) (x16 : Int32) (x17 : Nat) : Nat × va_E := (a, .inr (11, [.ref x0, .ref x1, .ref x2, .ref x3, .ref x4, .ref x5, .ref x6, .ref x7, .ref x8, .ref x9, .ref x10, .ref x11, .ref x12, .int x13, .ref x14, .ref x15, .int x16, .ref x17]))
abbrev wO12 (a : Nat) (x0 : Int32) (x1 : Nat) (x2 : Nat) (x3 : Nat) (x4 : Nat) (x5 : Nat) (x6 : Nat) (x7 : Int32) (x8 : Nat) (x9 : Int32) (x10 : Int32) (x11 : Int32) (x12 : Int32) (x13 : Int32) (x14 : Int32) (x15 : Int32) (x16 : Int32) (x17 : Int32) (x18 : Nat) (x19 : Int32) (x20 : Nat) (x21 : Nat) (x22 : Nat) (x23 : Nat) (x24 : Nat) (x25 : Nat) (x26 : Nat) (x27 : Nat) (x28 : Nat) (x29 : Nat) (x30 : Nat) (x31 : Nat) (x32 : Int32) (x33 : Nat) (x34 : Int32) : Nat × va_E := (a, .inr (12, (.int x0 :: .ref x1 :: .ref x2 :: .ref x3 :: .ref x4 :: .ref x5 :: .ref x6 :: .int x7 :: .ref x8 :: .int x9 :: .int x10 :: .int x11 :: .int x12 :: .int x13 :: .int x14 :: .int x15 :: .int x16 :: .int x17 :: .ref x18 :: .int x19 :: .ref x20 :: .ref x21 :: .ref x22 :: .ref x23 :: .ref x24 :: .ref x25 :: .ref x26 :: .ref x27 :: .ref x28 :: .ref x29 :: .ref x30 :: .ref x31 :: .int x32 :: .ref x33 :: .int x34 :: [])))
/-! ranges of numbers -/
theorem tr_w {x : Int32} {a b lo hi : Int} (h : a ≤ x.toInt ∧ x.toInt ≤ b) (h1 : lo ≤ a) (h2 : b ≤ hi) : lo ≤ x.toInt ∧ x.toInt ≤ hi := by omega
theorem nr_lt_l {x y a b c d lo hi : Int} (hx : a ≤ x ∧ x ≤ b) (hy : c ≤ y ∧ y ≤ d) (h : x < y) (e1 : lo ≤ a) (e2 : b ≤ hi ∨ d - 1 ≤ hi) : lo ≤ x ∧ x ≤ hi := by omega
theorem nr_lt_r {x y a b c d lo hi : Int} (hx : a ≤ x ∧ x ≤ b) (hy : c ≤ y ∧ y ≤ d) (h : x < y) (e1 : lo ≤ c ∨ lo ≤ a + 1) (e2 : d ≤ hi) : lo ≤ y ∧ y ≤ hi := by omega
theorem nr_le_l {x y a b c d lo hi : Int} (hx : a ≤ x ∧ x ≤ b) (hy : c ≤ y ∧ y ≤ d) (h : x ≤ y) (e1 : lo ≤ a) (e2 : b ≤ hi ∨ d ≤ hi) : lo ≤ x ∧ x ≤ hi := by omega
theorem nr_le_r {x y a b c d lo hi : Int} (hx : a ≤ x ∧ x ≤ b) (hy : c ≤ y ∧ y ≤ d) (h : x ≤ y) (e1 : lo ≤ c ∨ lo ≤ a) (e2 : d ≤ hi) : lo ≤ y ∧ y ≤ hi := by omega
theorem nr_eq_l {x y a b c d lo hi : Int} (hx : a ≤ x ∧ x ≤ b) (hy : c ≤ y ∧ y ≤ d) (h : x = y) (e1 : lo ≤ a ∨ lo ≤ c) (e2 : b ≤ hi ∨ d ≤ hi) : lo ≤ x ∧ x ≤ hi := by omega
theorem nr_eq_r {x y a b c d lo hi : Int} (hx : a ≤ x ∧ x ≤ b) (hy : c ≤ y ∧ y ≤ d) (h : x = y) (e1 : lo ≤ c ∨ lo ≤ a) (e2 : d ≤ hi ∨ b ≤ hi) : lo ≤ y ∧ y ≤ hi := by omega
theorem nr_ne_l {x y a b c d lo hi : Int} (hx : a ≤ x ∧ x ≤ b) (hy : c ≤ y ∧ y ≤ d) (h : ¬ x = y) (e1 : lo ≤ a ∨ (lo ≤ a + 1 ∧ a = c ∧ a = d)) (e2 : b ≤ hi ∨ (b - 1 ≤ hi ∧ b = c ∧ b = d)) : lo ≤ x ∧ x ≤ hi := by omega
theorem nr_ne_r {x y a b c d lo hi : Int} (hx : a ≤ x ∧ x ≤ b) (hy : c ≤ y ∧ y ≤ d) (h : ¬ x = y) (e1 : lo ≤ c ∨ (lo ≤ c + 1 ∧ c = a ∧ c = b)) (e2 : d ≤ hi ∨ (d - 1 ≤ hi ∧ d = a ∧ d = b)) : lo ≤ y ∧ y ≤ hi := by omega
theorem nr_pt {x c : Int} (h : c ≤ x ∧ x ≤ c) : x = c := by omega
theorem nr_8 {i : Nat} (h : i < 8) : i = 0 ∨ i = 1 ∨ i = 2 ∨ i = 3 ∨ i = 4 ∨ i = 5 ∨ i = 6 ∨ i = 7 := by omega
theorem nr_12 {i : Nat} (h : i < 12) : i = 0 ∨ i = 1 ∨ i = 2 ∨ i = 3 ∨ i = 4 ∨ i = 5 ∨ i = 6 ∨ i = 7 ∨ i = 8 ∨ i = 9 ∨ i = 10 ∨ i = 11 := by omega
theorem nr_x_lt {x y a b c d : Int} (hx : a ≤ x ∧ x ≤ b) (hy : c ≤ y ∧ y ≤ d) (h : x < y) (e : d ≤ a) : False := by omega
theorem nr_x_le {x y a b c d : Int} (hx : a ≤ x ∧ x ≤ b) (hy : c ≤ y ∧ y ≤ d) (h : x ≤ y) (e : d < a) : False := by omega
theorem nr_x_eq {x y a b c d : Int} (hx : a ≤ x ∧ x ≤ b) (hy : c ≤ y ∧ y ≤ d) (h : x = y) (e : b < c ∨ d < a) : False := by omega
theorem nr_x_ne {x y a b c d : Int} (hx : a ≤ x ∧ x ≤ b) (hy : c ≤ y ∧ y ≤ d) (h : ¬ x = y) (e : a = b ∧ c = d ∧ a = c) : False := by omega
theorem tr_wa {f : Nat → Int32} {a b lo hi : Int} (h : ∀ j : Nat, a ≤ (f j).toInt ∧ (f j).toInt ≤ b) (h1 : lo ≤ a) (h2 : b ≤ hi) : ∀ j : Nat, lo ≤ (f j).toInt ∧ (f j).toInt ≤ hi := fun j => tr_w (h j) h1 h2
theorem tr_any (x : Int32) : -2147483648 ≤ x.toInt ∧ x.toInt ≤ 2147483647 := by
  have h1 := Int32.le_toInt x
  have h2 := Int32.toInt_le x
  have e1 : Int32.maxValue.toInt = 2147483647 := by decide
  have e2 : Int32.minValue.toInt = -2147483648 := by decide
  omega
theorem tr_bmod {z : Int} (h1 : -2147483648 ≤ z) (h2 : z ≤ 2147483647) : z.bmod 4294967296 = z := by
  rw [Int.bmod_eq_of_le] <;> omega
theorem tr_addE {x y : Int32} {a b c : Int} (hx : a ≤ x.toInt ∧ x.toInt ≤ b) (hy : c ≤ y.toInt ∧ y.toInt ≤ c) (h1 : -2147483648 ≤ a + c) (h2 : b + c ≤ 2147483647) : (x + y).toInt = x.toInt + c := by
  rw [Int32.toInt_add]
  have e : y.toInt = c := by omega
  rw [e]
  exact tr_bmod (by omega) (by omega)
theorem tr_add {x y : Int32} {a b c d lo hi : Int} (hx : a ≤ x.toInt ∧ x.toInt ≤ b) (hy : c ≤ y.toInt ∧ y.toInt ≤ d) (h1 : -2147483648 ≤ a + c) (h2 : b + d ≤ 2147483647) (h3 : lo ≤ a + c) (h4 : b + d ≤ hi) : lo ≤ (x + y).toInt ∧ (x + y).toInt ≤ hi := by
  have e : (x + y).toInt = x.toInt + y.toInt := by
    rw [Int32.toInt_add]
    exact tr_bmod (by omega) (by omega)
  rw [e]
  omega
theorem tr_sub {x y : Int32} {a b c d lo hi : Int} (hx : a ≤ x.toInt ∧ x.toInt ≤ b) (hy : c ≤ y.toInt ∧ y.toInt ≤ d) (h1 : -2147483648 ≤ a - d) (h2 : b - c ≤ 2147483647) (h3 : lo ≤ a - d) (h4 : b - c ≤ hi) : lo ≤ (x - y).toInt ∧ (x - y).toInt ≤ hi := by
  have e : (x - y).toInt = x.toInt - y.toInt := by
    rw [Int32.toInt_sub]
    exact tr_bmod (by omega) (by omega)
  rw [e]
  omega
theorem tr_subE {x y : Int32} {a b c : Int} (hx : a ≤ x.toInt ∧ x.toInt ≤ b) (hy : c ≤ y.toInt ∧ y.toInt ≤ c) (h1 : -2147483648 ≤ a - c) (h2 : b - c ≤ 2147483647) : (x - y).toInt = x.toInt - c := by
  rw [Int32.toInt_sub]
  have e : y.toInt = c := by omega
  rw [e]
  exact tr_bmod (by omega) (by omega)
theorem tr_mul {x y : Int32} {a b c d lo hi : Int} (hx : a ≤ x.toInt ∧ x.toInt ≤ b) (hy : c ≤ y.toInt ∧ y.toInt ≤ d) (h1 : 0 ≤ a ∧ 0 ≤ c) (h2 : b * d ≤ 2147483647) (h3 : lo ≤ a * c) (h4 : b * d ≤ hi) : lo ≤ (x * y).toInt ∧ (x * y).toInt ≤ hi := by
  have m1 : a * c ≤ x.toInt * y.toInt := Int.mul_le_mul hx.1 hy.1 h1.2 (by omega)
  have m2 : x.toInt * y.toInt ≤ b * d := Int.mul_le_mul hx.2 hy.2 (by omega) (by omega)
  have m0 : 0 ≤ a * c := Int.mul_nonneg h1.1 h1.2
  have e : (x * y).toInt = x.toInt * y.toInt := by
    rw [Int32.toInt_mul]
    exact tr_bmod (by omega) (by omega)
  rw [e]
  omega
theorem tr_in {x : Int32} {a b : Int} {n : Nat} (h : a ≤ x.toInt ∧ x.toInt ≤ b) (h0 : 0 ≤ a) (h1 : b < (n : Int)) : vp_in x n := vp_in_iff.mpr ⟨by omega, by omega⟩
theorem tr_upd {f : Nat → Int32} {k : Nat} {x : Int32} {lo hi : Int} (h : ∀ j : Nat, lo ≤ (f j).toInt ∧ (f j).toInt ≤ hi) (hx : lo ≤ x.toInt ∧ x.toInt ≤ hi) : ∀ j : Nat, lo ≤ (upd f k x j).toInt ∧ (upd f k x j).toInt ≤ hi := by
  intro j
  show lo ≤ (if j = k then x else f j).toInt ∧ (if j = k then x else f j).toInt ≤ hi
  split
  · exact hx
  · exact h j
theorem tr_cpy {f h : Nat → Int32} {sp dp n : Nat} {lo hi : Int} (hf : ∀ j : Nat, lo ≤ (f j).toInt ∧ (f j).toInt ≤ hi) (hh : ∀ j : Nat, lo ≤ (h j).toInt ∧ (h j).toInt ≤ hi) : ∀ j : Nat, lo ≤ (va_cpy f h sp dp n j).toInt ∧ (va_cpy f h sp dp n j).toInt ≤ hi := by
  intro j
  unfold va_cpy
  split
  · exact hf _
  · exact hh _
theorem tr_nz {x : Int32} {a b : Int} (h : a ≤ x.toInt ∧ x.toInt ≤ b) (h0 : 0 < a ∨ b < 0) : ¬ x = 0 := fun e => by
  rw [e] at h
  have : (0 : Int32).toInt = 0 := by decide
  omega
theorem tr_cmp (x y : Int64) : -1 ≤ (lg_cmp x y).toInt ∧ (lg_cmp x y).toInt ≤ 1 := by
  unfold lg_cmp
  split
  · decide
  · split <;> decide
theorem tr_cmp0 {x : Int64} (h : ¬ lg_cmp x 0 = 0) : ¬ x = 0 := fun e => h (by rw [e]; decide)
theorem tr_cmp1 {x : Int64} (h : 0 ≤ lg_cmp x 1) : ¬ x = 0 := fun e => absurd h (by rw [e]; decide)
theorem tr_z {x : Int32} (h : 0 ≤ x.toInt ∧ x.toInt ≤ 1) : narrow .boolean (.int x) = .int x := by
  have e : x = 0 ∨ x = 1 := by
    rcases (show x.toInt = 0 ∨ x.toInt = 1 by omega) with q | q
    · exact Or.inl (Int32.toInt_inj.mp (q.trans (by decide)))
    · exact Or.inr (Int32.toInt_inj.mp (q.trans (by decide)))
  rcases e with rfl | rfl <;> decide
theorem tr_01 {x : Int32} (h : 0 ≤ x.toInt ∧ x.toInt ≤ 1) : x = 0 ∨ x = 1 := by
  rcases (show x.toInt = 0 ∨ x.toInt = 1 by omega) with q | q
  · exact Or.inl (Int32.toInt_inj.mp (q.trans (by decide)))
  · exact Or.inr (Int32.toInt_inj.mp (q.trans (by decide)))
theorem tr_or01 {x y : Int32} (hx : 0 ≤ x.toInt ∧ x.toInt ≤ 1) (hy : 0 ≤ y.toInt ∧ y.toInt ≤ 1) : 0 ≤ (x ||| y).toInt ∧ (x ||| y).toInt ≤ 1 := by
  rcases tr_01 hx with rfl | rfl <;> rcases tr_01 hy with rfl | rfl <;> decide
theorem tr_and01 {x y : Int32} (hx : 0 ≤ x.toInt ∧ x.toInt ≤ 1) (hy : 0 ≤ y.toInt ∧ y.toInt ≤ 1) : 0 ≤ (x &&& y).toInt ∧ (x &&& y).toInt ≤ 1 := by
  rcases tr_01 hx with rfl | rfl <;> rcases tr_01 hy with rfl | rfl <;> decide
theorem tr_cl {x : Int32} {n : Nat} (h : vp_in x n) : x.toNatClampNeg < n := Nat.not_le.mp fun q => h (Or.inr q)
section TQ
variable {p : Program} {l : Launch} {e : Env} {R : Room} {s : State} {m : MethodId} {args : Array Value} {below : List Frame} {meth : Method} {c : Code} {H H0 : Heap} {locs : List Loc} {cells slots : Nat} {Q : State → Prop} {pc : Nat} {ls : Array Slot} {rest : List Value} {cc : ByteArray} {D : va_G} {g : Nat → ClassId} {A : Nat → Prop} {rr : Nat → Nat} {WS : (Nat → Nat → Int64) → va_W} {ct : Nat → Nat → Int64}
theorem tq_ald (hx : p.tables.exec = Jvm.exec) (hb : c.code = cc) (hK : va_K D vwCl (TY g) s) (hP : va_P D vwCl (WS ct) H) (q0 : Nat) (hget : ∀ (ct : Nat → Nat → Int64) (i : Nat), i < 8 → (WS ct)[q0 + i]? = some (rr i, .inl (g 1, 8, .inr (.inl (ct i))))) {r j : Int32} (hr : vp_in r 8) (hj : vp_in j 8) (hdg : decode cc pc = .ok (.laload, 1))
    (kk : ∀ w : Int64, W p l e R s m args below meth c H locs cells slots Q (F0 m (pc + 1) ls (.long w :: rest))) : W p l e R s m args below meth c H locs cells slots Q (F0 m pc ls (.int j :: .ref (rr r.toNatClampNeg) :: rest)) :=
  va_lald hx hb hK hP (q0 + r.toNatClampNeg) 1 (hget ct _ (tr_cl hr)) rfl hj hdg (kk _)
theorem tq_ast (hx : p.tables.exec = Jvm.exec) (hb : c.code = cc) (hK : va_K D vwCl (TY g) s) (hP : va_P D vwCl (WS ct) H) (hD : va_D A (WS ct)) (hS : va_S A H0 H locs) (q0 : Nat) (hget : ∀ (ct : Nat → Nat → Int64) (i : Nat), i < 8 → (WS ct)[q0 + i]? = some (rr i, .inl (g 1, 8, .inr (.inl (ct i))))) (hset : ∀ (ct : Nat → Nat → Int64) (i : Nat) (f : Nat → Int64), i < 8 → (WS ct).set (q0 + i) (rr i, .inl (g 1, 8, .inr (.inl f))) = WS (fun k => if k = i then f else ct k)) {r j : Int32} {x : Int64} (hr : vp_in r 8) (hj : vp_in j 8) (hdg : decode cc pc = .ok (.lastore, 1))
    (kk : ∀ (ct1 : Nat → Nat → Int64) (H1 : Heap) (locs1 : List Loc), va_P D vwCl (WS ct1) H1 → va_D A (WS ct1) → va_S A H0 H1 locs1 → W p l e R s m args below meth c H1 locs1 cells slots Q (F0 m (pc + 1) ls rest)) : W p l e R s m args below meth c H locs cells slots Q (F0 m pc ls (.long x :: .int j :: .ref (rr r.toNatClampNeg) :: rest)) := by
  refine va_last hx hb hK hP hD hS (q0 + r.toNatClampNeg) 1 (hget ct _ (tr_cl hr)) rfl hj hdg (fun H1 locs1 hP hD hS => ?_)
  rw [hset ct _ _ (tr_cl hr)] at hP hD
  exact kk _ H1 locs1 hP hD hS
end TQ
/-! a run of letters and digits, as both readers go through it -/
theorem bg_cl {f : Nat → Int32} {z : Int} {k : Nat} {v : Int} (hf : ∀ j : Nat, 0 ≤ (f j).toInt ∧ (f j).toInt ≤ 255) (e : v = (f k).toInt) (h : (k : Int) < z) : bg f z k = v := by
  rw [bg_in h, e]; have := hf k; omega
def RNI (g : Nat → Int) (j x : Nat) (L D V : Int) : Prop := j ≤ x ∧ (∀ k : Nat, j ≤ k → k < x → ltr (g k) ∨ dgt (g k)) ∧ 0 ≤ L ∧ 0 ≤ D ∧ L + D = (x : Int) - j ∧ (D = 0 → ALt g j x) ∧ (D ≠ 0 → ¬ ALt g j x) ∧ (L = 0 → ADg g j x) ∧ (L ≠ 0 → ¬ ADg g j x) ∧ (D = 0 → x - j ≤ 6 → V = pk g j (x - j)) ∧ (L = 0 → x - j ≤ 2 → V = nmb g j (x - j))
theorem RNI.zero {g : Nat → Int} {j x : Nat} {L D V : Int} (hx : x = j) (hL : L = 0) (hD : D = 0) (hV : V = 0) : RNI g j x L D V := by
  subst hx; subst hL; subst hD; subst hV
  refine ⟨Nat.le_refl _, fun k h1 h2 => by omega, by omega, by omega, by omega, fun _ k h1 h2 => by omega, fun h => absurd rfl h, fun _ k h1 h2 => by omega, fun h => absurd rfl h, fun _ _ => ?_, fun _ _ => ?_⟩
  · rw [Nat.sub_self]; rfl
  · rw [Nat.sub_self]; rfl
theorem RNI.rng {g : Nat → Int} {j x : Nat} {L D V : Int} (h : RNI g j x L D V) : j ≤ x ∧ 0 ≤ L ∧ 0 ≤ D ∧ L + D = (x : Int) - j := ⟨h.1, h.2.2.1, h.2.2.2.1, h.2.2.2.2.1⟩
theorem RNI.bd {g : Nat → Int} {j x : Nat} {L D V : Int} (h : RNI g j x L D V) (hD : D = 0) (hx : x - j ≤ 5) : 0 ≤ V ∧ V ≤ 14348906 := by
  have e := h.2.2.2.2.2.2.2.2.2.1 hD (by omega)
  have a := h.2.2.2.2.2.1 hD
  have hl : ∀ k : Nat, k < x - j → ltr (g (j + k)) := fun k hk => a (j + k) (by omega) (by omega)
  have h0 := pk_nn hl
  have h1 := pk_lt7 hl
  have h2 : (27 : Int) ^ (x - j) ≤ 14348907 := by
    rcases (show x - j = 0 ∨ x - j = 1 ∨ x - j = 2 ∨ x - j = 3 ∨ x - j = 4 ∨ x - j = 5 by omega) with q | q | q | q | q | q <;> rw [q] <;> decide
  omega
theorem RNI.bd2 {g : Nat → Int} {j x : Nat} {L D V : Int} (h : RNI g j x L D V) (hL : L = 0) (hx : x - j ≤ 1) : 0 ≤ V ∧ V ≤ 9 := by
  have e := h.2.2.2.2.2.2.2.2.2.2 hL (by omega)
  have a := h.2.2.2.2.2.2.2.1 hL
  rcases (show x - j = 0 ∨ x - j = 1 by omega) with q | q
  · rw [q] at e
    have e' : V = 0 := e
    omega
  · rw [q] at e
    have e' : V = 0 * 10 + (g (j + 0) - 48) := e
    have b := a (j + 0) (by omega) (by omega)
    unfold dgt at b; omega
theorem RNI.letter {g : Nat → Int} {j x y : Nat} {L D V L' V' : Int} (h : RNI g j x L D V) (hy : y = x + 1) (hc : ltr (g x)) (hL : L' = L + 1) (hV : D = 0 → x - j ≤ 5 → V' = V * 27 + (g x - 96)) : RNI g j y L' D V' := by
  obtain ⟨h1, h2, h3, h4, h5, h6, h7, h8, h9, h10, h11⟩ := h
  subst hy; subst hL
  refine ⟨by omega, fun k k1 k2 => ?_, by omega, h4, by omega, fun q k k1 k2 => ?_, fun q r => h7 q (fun k k1 k2 => r k k1 (by omega)), fun q => by omega, fun _ r => ?_, fun q w => ?_, fun q => by omega⟩
  · rcases Nat.lt_or_ge k x with z | z
    · exact h2 k k1 z
    · have : k = x := by omega
      subst this; exact Or.inl hc
  · rcases Nat.lt_or_ge k x with z | z
    · exact h6 q k k1 z
    · have : k = x := by omega
      subst this; exact hc
  · have b := r x h1 (by omega)
    unfold ltr at hc; unfold dgt at b; omega
  · have e := h10 q (by omega)
    have n : x + 1 - j = (x - j) + 1 := by omega
    have n2 : j + (x - j) = x := by omega
    rw [n, pk_succ, n2, ← e]
    exact hV q (by omega)
theorem RNI.digit {g : Nat → Int} {j x y : Nat} {L D V D' V' : Int} (h : RNI g j x L D V) (hy : y = x + 1) (hc : dgt (g x)) (hD : D' = D + 1) (hV : L = 0 → x - j ≤ 1 → V' = V * 10 + (g x - 48)) : RNI g j y L D' V' := by
  obtain ⟨h1, h2, h3, h4, h5, h6, h7, h8, h9, h10, h11⟩ := h
  subst hy; subst hD
  refine ⟨by omega, fun k k1 k2 => ?_, h3, by omega, by omega, fun q => by omega, fun _ r => ?_, fun q k k1 k2 => ?_, fun q r => h9 q (fun k k1 k2 => r k k1 (by omega)), fun q => by omega, fun q w => ?_⟩
  · rcases Nat.lt_or_ge k x with z | z
    · exact h2 k k1 z
    · have : k = x := by omega
      subst this; exact Or.inr hc
  · have b := r x h1 (by omega)
    unfold ltr at b; unfold dgt at hc; omega
  · rcases Nat.lt_or_ge k x with z | z
    · exact h8 q k k1 z
    · have : k = x := by omega
      subst this; exact hc
  · have e := h11 q (by omega)
    have n : x + 1 - j = (x - j) + 1 := by omega
    have n2 : j + (x - j) = x := by omega
    rw [n, nmb_succ, n2, ← e]
    exact hV q (by omega)
/-- what a run tells -/
def RUT (g : Nat → Int) (j : Nat) (t : Int) (e : Nat) (v : Int) : Prop := RUn g j e ∧ ((ALt g j e ∧ e - j ≤ 6 ∧ t = 1 ∧ v = pk g j (e - j)) ∨ (ADg g j e ∧ e - j ≤ 2 ∧ t = 2 ∧ v = nmb g j (e - j)) ∨ (¬ (ALt g j e ∧ e - j ≤ 6) ∧ ¬ (ADg g j e ∧ e - j ≤ 2) ∧ t = 4))
theorem RNI.word {g : Nat → Int} {j x : Nat} {L D V t : Int} (h : RNI g j x L D V) (hs : ¬ (ltr (g x) ∨ dgt (g x))) (hD : D = 0) (hL : L ≤ 6) (ht : t = 1) : RUT g j t x V := by
  obtain ⟨h1, h2, h3, h4, h5, h6, h7, h8, h9, h10, h11⟩ := h
  exact ⟨⟨h1, h2, hs⟩, Or.inl ⟨h6 hD, by omega, ht, h10 hD (by omega)⟩⟩
theorem RNI.number {g : Nat → Int} {j x : Nat} {L D V t : Int} (h : RNI g j x L D V) (hs : ¬ (ltr (g x) ∨ dgt (g x))) (hL : L = 0) (hD : D ≤ 2) (ht : t = 2) : RUT g j t x V := by
  obtain ⟨h1, h2, h3, h4, h5, h6, h7, h8, h9, h10, h11⟩ := h
  exact ⟨⟨h1, h2, hs⟩, Or.inr (Or.inl ⟨h8 hL, by omega, ht, h11 hL (by omega)⟩)⟩
theorem RNI.wrong {g : Nat → Int} {j x : Nat} {L D V t : Int} (h : RNI g j x L D V) (hs : ¬ (ltr (g x) ∨ dgt (g x))) (n1 : ¬ (D = 0 ∧ L ≤ 6)) (n2 : ¬ (L = 0 ∧ D ≤ 2)) (ht : t = 4) : RUT g j t x V := by
  obtain ⟨h1, h2, h3, h4, h5, h6, h7, h8, h9, h10, h11⟩ := h
  refine ⟨⟨h1, h2, hs⟩, Or.inr (Or.inr ⟨fun q => ?_, fun q => ?_, ht⟩)⟩
  · by_cases d : D = 0
    · exact n1 ⟨d, by omega⟩
    · exact h7 d q.1
  · by_cases d : L = 0
    · exact n2 ⟨d, by omega⟩
    · exact h9 d q.1
theorem tk_none {g : Nat → Int} {i j e : Nat} {t v : Int} (s : SKp g i j) (h : g j = -1) (ht : t = 0) (he : e = j) : TK g i t j e v := ⟨s, Or.inl ⟨h, ht, he⟩⟩
theorem tk_semi {g : Nat → Int} {i j e : Nat} {t v : Int} (s : SKp g i j) (h : g j = 59) (ht : t = 3) (he : e = j + 1) : TK g i t j e v := ⟨s, Or.inr (Or.inl ⟨h, ht, he⟩)⟩
theorem tk_wrong {g : Nat → Int} {i j e : Nat} {t v : Int} (s : SKp g i j) (h1 : g j ≠ -1) (h2 : g j ≠ 59) (h3 : ¬ ltr (g j)) (h4 : ¬ dgt (g j)) (ht : t = 4) : TK g i t j e v := ⟨s, Or.inr (Or.inr (Or.inl ⟨h1, h2, h3, h4, ht⟩))⟩
theorem tk_run {g : Nat → Int} {i j e : Nat} {t v : Int} (s : SKp g i j) (h : ltr (g j) ∨ dgt (g j)) (r : RUT g j t e v) : TK g i t j e v := by
  refine ⟨s, Or.inr (Or.inr (Or.inr ⟨h, e, r.1, ?_⟩))⟩
  rcases r.2 with ⟨a, b, c, d⟩ | ⟨a, b, c, d⟩ | ⟨a, b, c⟩
  · exact Or.inl ⟨a, b, c, rfl, d⟩
  · exact Or.inr (Or.inl ⟨a, b, c, rfl, d⟩)
  · exact Or.inr (Or.inr ⟨a, b, c⟩)
/-- spaces are passed over -/
def SKI (g : Nat → Int) (i x : Nat) : Prop := i ≤ x ∧ ∀ k : Nat, i ≤ k → k < x → g k = 32
theorem SKI.zero {g : Nat → Int} {i x : Nat} (h : x = i) : SKI g i x := by
  subst h; exact ⟨Nat.le_refl _, fun k h1 h2 => by omega⟩
theorem SKI.on {g : Nat → Int} {i x y : Nat} (h : SKI g i x) (hc : g x = 32) (hy : y = x + 1) : SKI g i y := by
  subst hy
  refine ⟨by have := h.1; omega, fun k h1 h2 => ?_⟩
  rcases Nat.lt_or_ge k x with z | z
  · exact h.2 k h1 z
  · have : k = x := by omega
    subst this; exact hc
theorem SKI.fin {g : Nat → Int} {i x : Nat} (h : SKI g i x) (hc : g x ≠ 32) : SKp g i x := ⟨h.1, h.2, hc⟩
theorem tv27 {V m b t : Int32} (hm : m = V * 27) (ht : t = m + b) (h0 : 0 ≤ V.toInt) (h1 : V.toInt ≤ 14348906) (b0 : -100 ≤ b.toInt) (b1 : b.toInt ≤ 300) : t.toInt = V.toInt * 27 + b.toInt := by
  have e : (27 : Int32).toInt = 27 := by decide
  have e1 : (V * 27).toInt = V.toInt * 27 := by
    rw [Int32.toInt_mul, e]
    exact tr_bmod (by omega) (by omega)
  rw [ht, hm, Int32.toInt_add, e1]
  exact tr_bmod (by omega) (by omega)
theorem tv10 {V m b t : Int32} (hm : m = V * 10) (ht : t = m + b) (h0 : 0 ≤ V.toInt) (h1 : V.toInt ≤ 14348906) (b0 : -100 ≤ b.toInt) (b1 : b.toInt ≤ 300) : t.toInt = V.toInt * 10 + b.toInt := by
  have e : (10 : Int32).toInt = 10 := by decide
  have e1 : (V * 10).toInt = V.toInt * 10 := by
    rw [Int32.toInt_mul, e]
    exact tr_bmod (by omega) (by omega)
  rw [ht, hm, Int32.toInt_add, e1]
  exact tr_bmod (by omega) (by omega)
/-! the ways through a line, one by one -/
theorem nok_in {g : Nat → Int} {e : Nat} {a a' : Nat → Int} {k : Int} {t1 : Int} {j1 e1 : Nat} {v1 : Int} {t2 : Int} {j2 e2 : Nat} {v2 : Int} (nf : ¬ FULL a k) (h1 : TK g e t1 j1 e1 v1) (n1 : NMC t1 v1) {r : Int} (fd : FDn a v1 r) (hr : r = -1) (h2 : TK g e1 t2 j2 e2 v2) (k0 : k ≠ 0) (ad : AddN a a' k v1 0) : NOk g e a k a' t2 j2 e2 v2 := by
  refine ⟨nf, t1, j1, e1, v1, h1, n1, ?_, t2, j2, e2, v2, h2, Or.inl ⟨k0, ad, h2⟩⟩
  rcases fd with ⟨q, _⟩ | ⟨_, q⟩
  · omega
  · exact q
theorem nok_end {g : Nat → Int} {e : Nat} {a a' : Nat → Int} {k : Int} {t1 : Int} {j1 e1 : Nat} {v1 : Int} {t2 : Int} {j2 e2 : Nat} {v2 : Int} {t3 : Int} {j3 e3 : Nat} {v3 : Int} (nf : ¬ FULL a k) (h1 : TK g e t1 j1 e1 v1) (n1 : NMC t1 v1) {r : Int} (fd : FDn a v1 r) (hr : r = -1) (h2 : TK g e1 t2 j2 e2 v2) (k0 : k = 0) (t0 : t2 = 2) (v0 : v2 ≤ 9) (h3 : TK g e2 t3 j3 e3 v3) (ad : AddN a a' 0 v1 v2) : NOk g e a k a' t3 j3 e3 v3 := by
  refine ⟨nf, t1, j1, e1, v1, h1, n1, ?_, t2, j2, e2, v2, h2, Or.inr ⟨k0, t0, v0, h3, ad⟩⟩
  rcases fd with ⟨q, _⟩ | ⟨_, q⟩
  · omega
  · exact q
theorem nfl_full {g : Nat → Int} {pl e : Nat} {a : Nat → Int} {k P : Int} (h : FULL a k) (hP : P = pl) : NFl g pl e a k P := Or.inl ⟨h, hP⟩
theorem nfl_name {g : Nat → Int} {pl e : Nat} {a : Nat → Int} {k P : Int} {t1 : Int} {j1 e1 : Nat} {v1 : Int} (nf : ¬ FULL a k) (h1 : TK g e t1 j1 e1 v1) (n1 : ¬ NMC t1 v1) (hP : P = j1) : NFl g pl e a k P := Or.inr ⟨nf, t1, j1, e1, v1, h1, Or.inl ⟨n1, hP⟩⟩
theorem nfl_twice {g : Nat → Int} {pl e : Nat} {a : Nat → Int} {k P : Int} {t1 : Int} {j1 e1 : Nat} {v1 : Int} (nf : ¬ FULL a k) (h1 : TK g e t1 j1 e1 v1) (n1 : NMC t1 v1) {r : Int} (fd : FDn a v1 r) (hr : r ≠ -1) (hP : P = j1) : NFl g pl e a k P := by
  refine Or.inr ⟨nf, t1, j1, e1, v1, h1, Or.inr (Or.inl ⟨n1, ?_, hP⟩)⟩
  rcases fd with ⟨q, w, x, _⟩ | ⟨q, _⟩
  · exact ⟨r.toNat, by omega, x⟩
  · exact absurd q hr
theorem nfl_pay {g : Nat → Int} {pl e : Nat} {a : Nat → Int} {k P : Int} {t1 : Int} {j1 e1 : Nat} {v1 : Int} {t2 : Int} {j2 e2 : Nat} {v2 : Int} (nf : ¬ FULL a k) (h1 : TK g e t1 j1 e1 v1) (n1 : NMC t1 v1) {r : Int} (fd : FDn a v1 r) (hr : r = -1) (k0 : k = 0) (h2 : TK g e1 t2 j2 e2 v2) (h : t2 ≠ 2 ∨ 9 < v2) (hP : P = j2) : NFl g pl e a k P := by
  refine Or.inr ⟨nf, t1, j1, e1, v1, h1, Or.inr (Or.inr ⟨n1, ?_, k0, t2, j2, e2, v2, h2, h, hP⟩)⟩
  rcases fd with ⟨q, _⟩ | ⟨_, q⟩
  · omega
  · exact q
/-- a way's first half and its second half -/
def WS1 (g : Nat → Int) (e : Nat) (a : Nat → Int) (r t : Int) (j e' : Nat) (v : Int) : Prop := TK g e t j e' v ∧ NMC t v ∧ FDn a v r ∧ 0 ≤ r ∧ a (1 + r.toNat) ≠ 0 ∧ a (25 + r.toNat) < 3
def WT1 (g : Nat → Int) (e1 : Nat) (a : Nat → Int) (r1 : Int) (a' : Nat → Int) (t' : Int) (j' e' : Nat) (v' : Int) : Prop :=
  ∃ (t2 : Int) (j2 e2 : Nat) (v2 r2 : Int), TK g e1 t2 j2 e2 v2 ∧ NMC t2 v2 ∧ FDn a v2 r2 ∧ 0 ≤ r2 ∧
  ∃ (t3 : Int) (j3 e3 : Nat) (v3 : Int), TK g e2 t3 j3 e3 v3 ∧
    ((a (1 + r1.toNat) = 3 ∧ t3 = 2 ∧ 1 ≤ v3 ∧ v3 ≤ 3 ∧ wsum a r1.toNat (a (25 + r1.toNat)).toNat + v3 ≤ 4 ∧ TK g e3 t' j' e' v' ∧ AddW a a' r1 r2 v3) ∨
     (a (1 + r1.toNat) = 3 ∧ t3 ≠ 2 ∧ wsum a r1.toNat (a (25 + r1.toNat)).toNat < 4 ∧ TK g e2 t' j' e' v' ∧ AddW a a' r1 r2 1) ∨
     (a (1 + r1.toNat) ≠ 3 ∧ TK g e2 t' j' e' v' ∧ AddW a a' r1 r2 1))
def WTF (g : Nat → Int) (e1 : Nat) (a : Nat → Int) (r1 P : Int) : Prop :=
  ∃ (t2 : Int) (j2 e2 : Nat) (v2 : Int), TK g e1 t2 j2 e2 v2 ∧ ((¬ NMC t2 v2 ∧ P = j2) ∨ (NMC t2 v2 ∧ ∃ r2 : Int, FDn a v2 r2 ∧ ((r2 < 0 ∧ P = j2) ∨ (0 ≤ r2 ∧
  ∃ (t3 : Int) (j3 e3 : Nat) (v3 : Int), TK g e2 t3 j3 e3 v3 ∧
    ((a (1 + r1.toNat) = 3 ∧ t3 = 2 ∧ ¬ (1 ≤ v3 ∧ v3 ≤ 3 ∧ wsum a r1.toNat (a (25 + r1.toNat)).toNat + v3 ≤ 4) ∧ P = j3) ∨
     (a (1 + r1.toNat) = 3 ∧ t3 ≠ 2 ∧ 4 ≤ wsum a r1.toNat (a (25 + r1.toNat)).toNat ∧ P = j2) ∨
     (a (1 + r1.toNat) ≠ 3 ∧ t3 = 2 ∧ P = j3))))))
theorem wok_of {g : Nat → Int} {e : Nat} {a a' : Nat → Int} {r t1 : Int} {j1 e1 : Nat} {v1 t' : Int} {j' e' : Nat} {v' : Int} (h : WS1 g e a r t1 j1 e1 v1) (q : WT1 g e1 a r a' t' j' e' v') : WyOk g e a a' t' j' e' v' := ⟨t1, j1, e1, v1, r, h.1, h.2.1, h.2.2.1, h.2.2.2.1, h.2.2.2.2.1, h.2.2.2.2.2, q⟩
theorem wfl_of {g : Nat → Int} {e : Nat} {a : Nat → Int} {r t1 : Int} {j1 e1 : Nat} {v1 P : Int} (h : WS1 g e a r t1 j1 e1 v1) (q : WTF g e1 a r P) : WFl g e a P := ⟨t1, j1, e1, v1, h.1, Or.inr ⟨h.2.1, r, h.2.2.1, Or.inr ⟨h.2.2.2.1, h.2.2.2.2.1, h.2.2.2.2.2, q⟩⟩⟩
theorem wfl_name {g : Nat → Int} {e : Nat} {a : Nat → Int} {t1 : Int} {j1 e1 : Nat} {v1 P : Int} (h1 : TK g e t1 j1 e1 v1) (n1 : ¬ NMC t1 v1) (hP : P = j1) : WFl g e a P := ⟨t1, j1, e1, v1, h1, Or.inl ⟨n1, hP⟩⟩
theorem wfl_from {g : Nat → Int} {e : Nat} {a : Nat → Int} {t1 : Int} {j1 e1 : Nat} {v1 P r : Int} (h1 : TK g e t1 j1 e1 v1) (n1 : NMC t1 v1) (fd : FDn a v1 r) (h : r < 0 ∨ a (1 + r.toNat) = 0 ∨ 3 ≤ a (25 + r.toNat)) (hP : P = j1) : WFl g e a P := ⟨t1, j1, e1, v1, h1, Or.inr ⟨n1, r, fd, Or.inl ⟨h, hP⟩⟩⟩
theorem wtf_name {g : Nat → Int} {e : Nat} {a : Nat → Int} {r t2 : Int} {j2 e2 : Nat} {v2 P : Int} (h : TK g e t2 j2 e2 v2) (n : ¬ NMC t2 v2) (hP : P = j2) : WTF g e a r P := ⟨t2, j2, e2, v2, h, Or.inl ⟨n, hP⟩⟩
theorem wtf_to {g : Nat → Int} {e : Nat} {a : Nat → Int} {r t2 : Int} {j2 e2 : Nat} {v2 P r2 : Int} (h : TK g e t2 j2 e2 v2) (n : NMC t2 v2) (fd : FDn a v2 r2) (h0 : r2 < 0) (hP : P = j2) : WTF g e a r P := ⟨t2, j2, e2, v2, h, Or.inr ⟨n, r2, fd, Or.inl ⟨h0, hP⟩⟩⟩
/-- all that a chance node has is given out: one way or the other, the fault is at the second name -/
theorem wtf_all {g : Nat → Int} {e : Nat} {a : Nat → Int} {r t2 : Int} {j2 e2 : Nat} {v2 P r2 : Int} {t3 : Int} {j3 e3 : Nat} {v3 : Int} (h : TK g e t2 j2 e2 v2) (n : NMC t2 v2) (fd : FDn a v2 r2) (h3 : TK g e2 t3 j3 e3 v3) (kc : a (1 + r.toNat) = 3) (t0 : t3 ≠ 2) (ws : 4 ≤ wsum a r.toNat (a (25 + r.toNat)).toNat) (hP : P = j2) : WTF g e a r P := by
  by_cases h0 : r2 < 0
  · exact wtf_to h n fd h0 hP
  · exact ⟨t2, j2, e2, v2, h, Or.inr ⟨n, r2, fd, Or.inr ⟨by omega, t3, j3, e3, v3, h3, Or.inr (Or.inl ⟨kc, t0, ws, hP⟩)⟩⟩⟩
theorem wtf_weight {g : Nat → Int} {e : Nat} {a : Nat → Int} {r t2 : Int} {j2 e2 : Nat} {v2 P r2 : Int} {t3 : Int} {j3 e3 : Nat} {v3 : Int} (h : TK g e t2 j2 e2 v2) (n : NMC t2 v2) (fd : FDn a v2 r2) (h0 : 0 ≤ r2) (h3 : TK g e2 t3 j3 e3 v3) (kc : a (1 + r.toNat) = 3) (t0 : t3 = 2) (ws : ¬ (1 ≤ v3 ∧ v3 ≤ 3 ∧ wsum a r.toNat (a (25 + r.toNat)).toNat + v3 ≤ 4)) (hP : P = j3) : WTF g e a r P := ⟨t2, j2, e2, v2, h, Or.inr ⟨n, r2, fd, Or.inr ⟨h0, t3, j3, e3, v3, h3, Or.inl ⟨kc, t0, ws, hP⟩⟩⟩⟩
theorem wtf_sure {g : Nat → Int} {e : Nat} {a : Nat → Int} {r t2 : Int} {j2 e2 : Nat} {v2 P r2 : Int} {t3 : Int} {j3 e3 : Nat} {v3 : Int} (h : TK g e t2 j2 e2 v2) (n : NMC t2 v2) (fd : FDn a v2 r2) (h0 : 0 ≤ r2) (h3 : TK g e2 t3 j3 e3 v3) (kc : a (1 + r.toNat) ≠ 3) (t0 : t3 = 2) (hP : P = j3) : WTF g e a r P := ⟨t2, j2, e2, v2, h, Or.inr ⟨n, r2, fd, Or.inr ⟨h0, t3, j3, e3, v3, h3, Or.inr (Or.inr ⟨kc, t0, hP⟩)⟩⟩⟩
theorem wt_weight {g : Nat → Int} {e : Nat} {a a' : Nat → Int} {r t2 : Int} {j2 e2 : Nat} {v2 r2 : Int} {t3 : Int} {j3 e3 : Nat} {v3 t' : Int} {j' e' : Nat} {v' : Int} (h : TK g e t2 j2 e2 v2) (n : NMC t2 v2) (fd : FDn a v2 r2) (h0 : 0 ≤ r2) (h3 : TK g e2 t3 j3 e3 v3) (kc : a (1 + r.toNat) = 3) (t0 : t3 = 2) (v0 : 1 ≤ v3) (v1 : v3 ≤ 3) (ws : wsum a r.toNat (a (25 + r.toNat)).toNat + v3 ≤ 4) (h4 : TK g e3 t' j' e' v') (ad : AddW a a' r r2 v3) : WT1 g e a r a' t' j' e' v' := ⟨t2, j2, e2, v2, r2, h, n, fd, h0, t3, j3, e3, v3, h3, Or.inl ⟨kc, t0, v0, v1, ws, h4, ad⟩⟩
theorem wt_one {g : Nat → Int} {e : Nat} {a a' : Nat → Int} {r t2 : Int} {j2 e2 : Nat} {v2 r2 : Int} {t3 : Int} {j3 e3 : Nat} {v3 : Int} (h : TK g e t2 j2 e2 v2) (n : NMC t2 v2) (fd : FDn a v2 r2) (h0 : 0 ≤ r2) (h3 : TK g e2 t3 j3 e3 v3) (kc : a (1 + r.toNat) = 3) (t0 : t3 ≠ 2) (ws : wsum a r.toNat (a (25 + r.toNat)).toNat < 4) (ad : AddW a a' r r2 1) : WT1 g e a r a' t3 j3 e3 v3 := ⟨t2, j2, e2, v2, r2, h, n, fd, h0, t3, j3, e3, v3, h3, Or.inr (Or.inl ⟨kc, t0, ws, h3, ad⟩)⟩
theorem wt_sure {g : Nat → Int} {e : Nat} {a a' : Nat → Int} {r t2 : Int} {j2 e2 : Nat} {v2 r2 : Int} {t3 : Int} {j3 e3 : Nat} {v3 : Int} (h : TK g e t2 j2 e2 v2) (n : NMC t2 v2) (fd : FDn a v2 r2) (h0 : 0 ≤ r2) (h3 : TK g e2 t3 j3 e3 v3) (kc : a (1 + r.toNat) ≠ 3) (ad : AddW a a' r r2 1) : WT1 g e a r a' t3 j3 e3 v3 := ⟨t2, j2, e2, v2, r2, h, n, fd, h0, t3, j3, e3, v3, h3, Or.inr (Or.inr ⟨kc, h3, ad⟩)⟩
theorem lok_node {g : Nat → Int} {t : Int} {j e : Nat} {v : Int} {a : Nat → Int} {k t1 : Int} {j1 e1 : Nat} {v1 t' : Int} {j' e' : Nat} {v' : Int} {a' : Nat → Int} (ht : t = 1) (hk : kd v = k) (k0 : 0 ≤ k) (k1 : k ≤ 3) (n : NOk g e a k a' t1 j1 e1 v1) (t3 : t1 = 3) (h : TK g e1 t' j' e' v') : LOk g t j e v a t' j' e' v' a' := by
  subst hk; exact ⟨ht, t1, j1, e1, v1, Or.inl ⟨k0, k1, n⟩, t3, h⟩
theorem lok_way {g : Nat → Int} {t : Int} {j e : Nat} {v : Int} {a : Nat → Int} {t1 : Int} {j1 e1 : Nat} {v1 t' : Int} {j' e' : Nat} {v' : Int} {a' : Nat → Int} (ht : t = 1) (hk : kd v = 4) (n : WyOk g e a a' t1 j1 e1 v1) (t3 : t1 = 3) (h : TK g e1 t' j' e' v') : LOk g t j e v a t' j' e' v' a' := ⟨ht, t1, j1, e1, v1, Or.inr ⟨hk, n⟩, t3, h⟩
theorem lfl_word {g : Nat → Int} {t : Int} {j e : Nat} {v : Int} {a : Nat → Int} {P : Int} (h : t ≠ 1 ∨ kd v = -1) (hP : P = j) : LFl g t j e v a P := Or.inl ⟨h, hP⟩
theorem lfl_node {g : Nat → Int} {t : Int} {j e : Nat} {v : Int} {a : Nat → Int} {k P : Int} (ht : t = 1) (hk : kd v = k) (k0 : 0 ≤ k) (k1 : k ≤ 3) (n : NFl g j e a k P) : LFl g t j e v a P := by
  subst hk; exact Or.inr ⟨ht, Or.inl ⟨k0, k1, Or.inl n⟩⟩
theorem lfl_nodeS {g : Nat → Int} {t : Int} {j e : Nat} {v : Int} {a : Nat → Int} {k P t1 : Int} {j1 e1 : Nat} {v1 : Int} {a' : Nat → Int} (ht : t = 1) (hk : kd v = k) (k0 : 0 ≤ k) (k1 : k ≤ 3) (n : NOk g e a k a' t1 j1 e1 v1) (t3 : t1 ≠ 3) (hP : P = j1) : LFl g t j e v a P := by
  subst hk; exact Or.inr ⟨ht, Or.inl ⟨k0, k1, Or.inr ⟨a', t1, j1, e1, v1, n, t3, hP⟩⟩⟩
theorem lfl_way {g : Nat → Int} {t : Int} {j e : Nat} {v : Int} {a : Nat → Int} {P : Int} (ht : t = 1) (hk : kd v = 4) (n : WFl g e a P) : LFl g t j e v a P := Or.inr ⟨ht, Or.inr ⟨hk, Or.inl n⟩⟩
theorem lfl_wayS {g : Nat → Int} {t : Int} {j e : Nat} {v : Int} {a : Nat → Int} {P t1 : Int} {j1 e1 : Nat} {v1 : Int} {a' : Nat → Int} (ht : t = 1) (hk : kd v = 4) (n : WyOk g e a a' t1 j1 e1 v1) (t3 : t1 ≠ 3) (hP : P = j1) : LFl g t j e v a P := Or.inr ⟨ht, Or.inr ⟨hk, Or.inr ⟨a', t1, j1, e1, v1, n, t3, hP⟩⟩⟩
/-- each line goes on -/
theorem NOk.on {g : Nat → Int} {e : Nat} {a a' : Nat → Int} {k t : Int} {j f : Nat} {v : Int} (h : NOk g e a k a' t j f v) : e ≤ j := by
  obtain ⟨-, t1, j1, e1, v1, h1, n1, -, t2, j2, e2, v2, h2, c⟩ := h
  have p1 := h1.place
  have o1 := h1.on (Or.inl n1.1)
  rcases c with ⟨-, -, h3⟩ | ⟨-, q, -, h3, -⟩
  · have p3 := h3.place
    omega
  · have p2 := h2.place
    have o2 := h2.on (Or.inr (Or.inl q))
    have p3 := h3.place
    omega
theorem WyOk.on {g : Nat → Int} {e : Nat} {a a' : Nat → Int} {t : Int} {j f : Nat} {v : Int} (h : WyOk g e a a' t j f v) : e ≤ j := by
  obtain ⟨t1, j1, e1, v1, r1, xa, xb, -, -, -, -, t2, j2, e2, v2, r2, xg, xh, -, -, t3, j3, e3, v3, xk, xl⟩ := h
  have p1 := xa.place
  have o1 := xa.on (Or.inl xb.1)
  have p2 := xg.place
  have o2 := xg.on (Or.inl xh.1)
  rcases xl with ⟨-, c2, -, -, -, c6, -⟩ | ⟨-, -, -, c4, -⟩ | ⟨-, c2, -⟩
  · have p3 := xk.place
    have o3 := xk.on (Or.inr (Or.inl c2))
    have p4 := c6.place
    omega
  · have p4 := c4.place
    omega
  · have p4 := c2.place
    omega
theorem RCH.tk {g : Nat → Int} : ∀ {k : Nat} {t : Int} {j e : Nat} {v : Int} {a : Nat → Int}, RCH g k t j e v a → (∃ i : Nat, TK g i t j e v) ∧ k ≤ j
  | 0, _, _, _, _, _, x => ⟨⟨0, x.1⟩, Nat.zero_le _⟩
  | k + 1, _, _, _, _, _, x => by
    obtain ⟨t0, j0, e0, v0, a0, x1, -, x3⟩ := x
    obtain ⟨⟨i, q⟩, hk⟩ := RCH.tk x1
    obtain ⟨y0, t1, j1, e1, v1, c, y3, y4⟩ := x3
    refine ⟨⟨e1, y4⟩, ?_⟩
    have o0 := q.on (Or.inl y0)
    have p4 := y4.place
    have le : e0 ≤ j1 := by
      rcases c with ⟨-, -, c⟩ | ⟨-, c⟩
      · exact c.on
      · exact c.on
    have o1 : j1 < e1 := by
      rcases c with ⟨-, -, -, u1, i1, f1, w1, -, -, -, u2, i2, f2, w2, h2, c⟩ | ⟨-, u1, i1, f1, w1, r1, -, -, -, -, -, -, u2, i2, f2, w2, r2, -, -, -, -, u3, i3, f3, w3, -, c⟩
      · rcases c with ⟨-, -, h3⟩ | ⟨-, -, -, h3, -⟩
        · exact h3.on (Or.inr (Or.inr y3))
        · exact h3.on (Or.inr (Or.inr y3))
      · rcases c with ⟨-, -, -, -, -, h3, -⟩ | ⟨-, -, -, h3, -⟩ | ⟨-, h3, -⟩
        · exact h3.on (Or.inr (Or.inr y3))
        · exact h3.on (Or.inr (Or.inr y3))
        · exact h3.on (Or.inr (Or.inr y3))
    omega
/-- a token stands at a sign of the tape -/
theorem TK.sign {g : Nat → Int} {i : Nat} {t : Int} {j e : Nat} {v : Int} (h : TK g i t j e v) (h0 : t ≠ 0) : g j ≠ -1 := by
  rcases h.2 with ⟨_, q, _⟩ | ⟨q, _, _⟩ | ⟨q, _⟩ | ⟨q, _⟩
  · exact absurd q h0
  · omega
  · exact q
  · unfold ltr dgt at q; omega
theorem RCH.lt {f : Nat → Int32} {z : Int} {k : Nat} {t : Int} {j e : Nat} {v : Int} {a : Nat → Int} (h : RCH (bg f z) k t j e v a) (h0 : t ≠ 0) : (k : Int) < z := by
  obtain ⟨⟨i, q⟩, hk⟩ := h.tk
  have := bg_lt (q.sign h0)
  omega
/-- weights of ways that are told -/
def BW (a : Nat → Int) : Prop := ∀ p : Nat, (p : Int) < a 0 → ∀ i : Nat, (i : Int) < a (25 + p) → 0 ≤ a (73 + 3 * p + i) ∧ a (73 + 3 * p + i) ≤ 3
theorem BW.addN {a a' : Nat → Int} {k v y : Int} (h : BW a) (q : AddN a a' k v y) : BW a' := by
  obtain ⟨q0, q1, q2, q3, q4, q5, q6⟩ := q
  intro p hp i hi
  by_cases z : (p : Int) < a 0
  · have s := q1 p z
    have hi' : (i : Int) < a (25 + p) := by rw [s.2.2.1]; exact hi
    rw [← (s.2.2.2.2.2 i hi').2]; exact h p z i hi'
  · have : p = (a 0).toNat := by omega
    subst this
    rw [q4] at hi; omega
theorem BW.addW {a a' : Nat → Int} {r q w : Int} (h : BW a) (h0 : 0 ≤ w) (h1 : w ≤ 3) (x : AddW a a' r q w) : BW a' := by
  obtain ⟨x0, x1, x2, x3, x4, x5, x6, x7, x8, x9, x10, x11, x12⟩ := x
  intro p hp i hi
  by_cases z : (p : Int) = r
  · have : p = r.toNat := by omega
    subst this
    rw [x9] at hi
    by_cases u : (i : Int) < a (25 + r.toNat)
    · rw [(x10 i u).2]; exact h _ (by omega) i u
    · have : i = (a (25 + r.toNat)).toNat := by omega
      subst this
      rw [x12]; omega
  · have s := x4 p (by omega) z
    have hi' : (i : Int) < a (25 + p) := by rw [s.2.2.1]; exact hi
    rw [← (s.2.2.2.2.2 i hi').2]; exact h p (by omega) i hi'
theorem BW.line {g : Nat → Int} {t : Int} {j e : Nat} {v : Int} {a : Nat → Int} {t' : Int} {j' e' : Nat} {v' : Int} {a' : Nat → Int} (h : BW a) (q : LOk g t j e v a t' j' e' v' a') : BW a' := by
  obtain ⟨-, t1, j1, e1, v1, c, -, -⟩ := q
  rcases c with ⟨-, -, -, u1, i1, f1, w1, -, -, -, u2, i2, f2, w2, -, c⟩ | ⟨-, u1, i1, f1, w1, r1, -, -, -, -, -, -, u2, i2, f2, w2, r2, -, -, -, -, u3, i3, f3, w3, -, c⟩
  · rcases c with ⟨-, c, -⟩ | ⟨-, -, -, -, c⟩
    · exact h.addN c
    · exact h.addN c
  · rcases c with ⟨-, -, c3, c4, -, -, c⟩ | ⟨-, -, -, -, c⟩ | ⟨-, -, c⟩
    · exact h.addW (by omega) c4 c
    · exact h.addW (by decide) (by decide) c
    · exact h.addW (by decide) (by decide) c
theorem RCH.bw {g : Nat → Int} : ∀ {k : Nat} {t : Int} {j e : Nat} {v : Int} {a : Nat → Int}, RCH g k t j e v a → BW a
  | 0, _, _, _, _, _, x => fun p hp => by have := x.2; omega
  | _ + 1, _, _, _, _, _, x => by
    obtain ⟨_, _, _, _, _, x1, -, x3⟩ := x
    exact (RCH.bw x1).line x3
/-! the reference's row of numbers -/
theorem tr_nat (x : Int32) : x.toNatClampNeg = x.toInt.toNat := rfl
/-- ranges, place by place -/
def GR (f : Nat → Int32) : Prop := (0 ≤ (f 0).toInt ∧ (f 0).toInt ≤ 12) ∧ (∀ k : Nat, k < 12 → (0 ≤ (f (1 + k)).toInt ∧ (f (1 + k)).toInt ≤ 3) ∧ (0 ≤ (f (13 + k)).toInt ∧ (f (13 + k)).toInt ≤ 9) ∧ (0 ≤ (f (25 + k)).toInt ∧ (f (25 + k)).toInt ≤ 3) ∧ (-1 ≤ (f (109 + k)).toInt ∧ (f (109 + k)).toInt ≤ 2)) ∧ ∀ j : Nat, j < 36 → (0 ≤ (f (37 + j)).toInt ∧ (f (37 + j)).toInt ≤ 11) ∧ (0 ≤ (f (73 + j)).toInt ∧ (f (73 + j)).toInt ≤ 3)
section GRs
variable {f : Nat → Int32} {x : Int32}
theorem gr_nodes (h : GR f) (hx : 0 ≤ x.toInt ∧ x.toInt ≤ 0) : 0 ≤ (f x.toNatClampNeg).toInt ∧ (f x.toNatClampNeg).toInt ≤ 12 := by
  have e : x.toNatClampNeg = 0 := by rw [tr_nat]; omega
  rw [e]; exact h.1
theorem gr_kind (h : GR f) (hx : 1 ≤ x.toInt ∧ x.toInt ≤ 12) : 0 ≤ (f x.toNatClampNeg).toInt ∧ (f x.toNatClampNeg).toInt ≤ 3 := by
  have e : x.toNatClampNeg = 1 + (x.toInt.toNat - 1) := by rw [tr_nat]; omega
  rw [e]; exact (h.2.1 _ (by omega)).1
theorem gr_pay (h : GR f) (hx : 13 ≤ x.toInt ∧ x.toInt ≤ 24) : 0 ≤ (f x.toNatClampNeg).toInt ∧ (f x.toNatClampNeg).toInt ≤ 9 := by
  have e : x.toNatClampNeg = 13 + (x.toInt.toNat - 13) := by rw [tr_nat]; omega
  rw [e]; exact (h.2.1 _ (by omega)).2.1
theorem gr_ways (h : GR f) (hx : 25 ≤ x.toInt ∧ x.toInt ≤ 36) : 0 ≤ (f x.toNatClampNeg).toInt ∧ (f x.toNatClampNeg).toInt ≤ 3 := by
  have e : x.toNatClampNeg = 25 + (x.toInt.toNat - 25) := by rw [tr_nat]; omega
  rw [e]; exact (h.2.1 _ (by omega)).2.2.1
theorem gr_held (h : GR f) (hx : 109 ≤ x.toInt ∧ x.toInt ≤ 120) : -1 ≤ (f x.toNatClampNeg).toInt ∧ (f x.toNatClampNeg).toInt ≤ 2 := by
  have e : x.toNatClampNeg = 109 + (x.toInt.toNat - 109) := by rw [tr_nat]; omega
  rw [e]; exact (h.2.1 _ (by omega)).2.2.2
theorem gr_to (h : GR f) (hx : 37 ≤ x.toInt ∧ x.toInt ≤ 72) : 0 ≤ (f x.toNatClampNeg).toInt ∧ (f x.toNatClampNeg).toInt ≤ 11 := by
  have e : x.toNatClampNeg = 37 + (x.toInt.toNat - 37) := by rw [tr_nat]; omega
  rw [e]; exact (h.2.2 _ (by omega)).1
theorem gr_heavy (h : GR f) (hx : 73 ≤ x.toInt ∧ x.toInt ≤ 108) : 0 ≤ (f x.toNatClampNeg).toInt ∧ (f x.toNatClampNeg).toInt ≤ 3 := by
  have e : x.toNatClampNeg = 73 + (x.toInt.toNat - 73) := by rw [tr_nat]; omega
  rw [e]; exact (h.2.2 _ (by omega)).2
end GRs
/-- the weights of a node's first ways, together -/
def gw (f : Nat → Int32) (k : Nat) : Nat → Int
  | 0 => 0
  | i + 1 => gw f k i + (f (73 + 3 * k + i)).toInt
/-- how many of the first nodes are of a kind -/
def gc (f : Nat → Int32) (d : Int) : Nat → Int
  | 0 => 0
  | n + 1 => gc f d n + (if (f (1 + n)).toInt = d then 1 else 0)
theorem gw_cong {f g : Nat → Int32} {k : Nat} : ∀ n : Nat, (∀ i : Nat, i < n → g (73 + 3 * k + i) = f (73 + 3 * k + i)) → gw g k n = gw f k n
  | 0, _ => rfl
  | n + 1, h => by
    show gw g k n + _ = gw f k n + _
    rw [gw_cong n (fun i hi => h i (by omega)), h n (by omega)]
theorem gc_cong {f g : Nat → Int32} {d : Int} : ∀ n : Nat, (∀ i : Nat, i < n → g (1 + i) = f (1 + i)) → gc g d n = gc f d n
  | 0, _ => rfl
  | n + 1, h => by
    show gc g d n + _ = gc f d n + _
    rw [gc_cong n (fun i hi => h i (by omega)), h n (by omega)]
theorem gc_nonneg (f : Nat → Int32) (d : Int) : ∀ n : Nat, 0 ≤ gc f d n ∧ gc f d n ≤ n
  | 0 => by simp [gc]
  | n + 1 => by
    have h := gc_nonneg f d n
    show 0 ≤ gc f d n + _ ∧ gc f d n + _ ≤ _
    split <;> omega
/-- a row while it is read -/
def GP (f : Nat → Int32) : Prop := GR f ∧ (∀ k : Nat, k < 12 → (f 0).toInt ≤ k → (f (1 + k)).toInt = 0 ∧ (f (25 + k)).toInt = 0) ∧ (∀ k : Nat, k < 12 → (f (1 + k)).toInt = 0 → (f (25 + k)).toInt = 0) ∧ (∀ k i : Nat, k < 12 → (i : Int) < (f (25 + k)).toInt → (f (37 + 3 * k + i)).toInt < (f 0).toInt ∧ 1 ≤ (f (73 + 3 * k + i)).toInt) ∧ (∀ k : Nat, k < 12 → (f (1 + k)).toInt = 3 → gw f k (f (25 + k)).toInt.toNat ≤ 4) ∧ (∀ k : Nat, k < 12 → ¬ (f (1 + k)).toInt = 0 → (f (109 + k)).toInt < (f (25 + k)).toInt) ∧ gc f 0 (f 0).toInt.toNat ≤ 4 ∧ (f 0).toInt - gc f 0 (f 0).toInt.toNat ≤ 8 ∧ gc f 3 (f 0).toInt.toNat ≤ 5
/-- a row that was read: every node that isn't an end has a way -/
def GS (f : Nat → Int32) : Prop := GP f ∧ ∀ k : Nat, k < 12 → ¬ (f (1 + k)).toInt = 0 → 1 ≤ (f (25 + k)).toInt
theorem GS.r {f : Nat → Int32} (h : GS f) : GR f := h.1.1
theorem gp_zero {f : Nat → Int32} (h : ∀ i : Nat, i < 193 → (i < 109 ∨ 121 ≤ i) → f i = 0) (hh : ∀ k : Nat, k < 12 → f (109 + k) = (-1) ∨ f (109 + k) = 0) : GP f := by
  have z : (0 : Int32).toInt = 0 := by decide
  have z1 : (-1 : Int32).toInt = -1 := by decide
  have e0 := h 0 (by omega) (by omega)
  have ek : ∀ k : Nat, k < 12 → f (1 + k) = 0 := fun k hk => h _ (by omega) (by omega)
  have ew : ∀ k : Nat, k < 12 → f (25 + k) = 0 := fun k hk => h _ (by omega) (by omega)
  refine ⟨⟨by rw [e0, z]; omega, fun k hk => ⟨by rw [ek k hk, z]; omega, by rw [h (13 + k) (by omega) (by omega), z]; omega, by rw [ew k hk, z]; omega, by rcases hh k hk with e | e <;> rw [e] <;> first | rw [z1]; omega | rw [z]; omega⟩, fun j hj => ⟨by rw [h (37 + j) (by omega) (by omega), z]; omega, by rw [h (73 + j) (by omega) (by omega), z]; omega⟩⟩, fun k hk _ => ⟨by rw [ek k hk, z], by rw [ew k hk, z]⟩, fun k hk _ => by rw [ew k hk, z], fun k i hk hi => ?_, fun k hk e => ?_, fun k hk e => ?_, ?_, ?_, ?_⟩
  · rw [ew k hk, z] at hi; omega
  · rw [ek k hk, z] at e; omega
  · rw [ek k hk, z] at e; omega
  · rw [e0, z]; simp [gc]
  · rw [e0, z]; simp [gc]
  · rw [e0, z]; simp [gc]
theorem gs_zero : GS (fun _ => 0) := ⟨gp_zero (fun _ _ _ => rfl) (fun _ _ => Or.inr rfl), fun k hk e => by simp at e⟩
theorem gp_cong {f g : Nat → Int32} (h : GP f) (h0 : g 0 = f 0) (hk : ∀ k : Nat, k < 12 → g (1 + k) = f (1 + k)) (hw : ∀ k : Nat, k < 12 → g (25 + k) = f (25 + k)) (ht : ∀ j : Nat, j < 36 → g (37 + j) = f (37 + j)) (hh : ∀ j : Nat, j < 36 → g (73 + j) = f (73 + j)) (hp : ∀ k : Nat, k < 12 → 0 ≤ (g (13 + k)).toInt ∧ (g (13 + k)).toInt ≤ 9) (hd : ∀ k : Nat, k < 12 → (-1 ≤ (g (109 + k)).toInt ∧ (g (109 + k)).toInt ≤ 2) ∧ (¬ (f (1 + k)).toInt = 0 → (g (109 + k)).toInt < (f (25 + k)).toInt)) : GP g := by
  obtain ⟨hR, a1, a2, a3, a4, a5, a6, a7, a8⟩ := h
  have n12 : (f 0).toInt.toNat ≤ 12 := by have := hR.1; omega
  have w3 : ∀ k : Nat, k < 12 → (f (25 + k)).toInt.toNat ≤ 3 := fun k q => by have := (hR.2.1 k q).2.2.1; omega
  have cc : ∀ d : Int, gc g d (f 0).toInt.toNat = gc f d (f 0).toInt.toNat := fun d => gc_cong _ (fun i hi => hk i (by omega))
  refine ⟨⟨by rw [h0]; exact hR.1, fun k q => ⟨by rw [hk k q]; exact (hR.2.1 k q).1, hp k q, by rw [hw k q]; exact (hR.2.1 k q).2.2.1, (hd k q).1⟩, fun j q => ⟨by rw [ht j q]; exact (hR.2.2 j q).1, by rw [hh j q]; exact (hR.2.2 j q).2⟩⟩, fun k q => by rw [h0, hk k q, hw k q]; exact a1 k q, fun k q => by rw [hk k q, hw k q]; exact a2 k q, fun k i q => ?_, fun k q => ?_, fun k q => by rw [hk k q, hw k q]; exact (hd k q).2, ?_, ?_, ?_⟩
  · rw [hw k q, h0]
    intro hi
    have := (hR.2.1 k q).2.2.1
    rw [show 37 + 3 * k + i = 37 + (3 * k + i) by omega, show 73 + 3 * k + i = 73 + (3 * k + i) by omega, ht _ (by omega), hh _ (by omega), ← Nat.add_assoc, ← Nat.add_assoc]
    exact a3 k i q hi
  · rw [hk k q, hw k q]
    intro e
    rw [gw_cong (f := f) _ (fun i hi => by rw [show 73 + 3 * k + i = 73 + (3 * k + i) by omega]; exact hh _ (by have := w3 k q; omega))]
    exact a4 k q e
  · rw [h0, cc]; exact a6
  · rw [h0, cc]; exact a7
  · rw [h0, cc]; exact a8
theorem upd_at (f : Nat → Int32) (k : Nat) (x : Int32) : upd f k x k = x := if_pos rfl
theorem upd_ne (f : Nat → Int32) {k j : Nat} (x : Int32) (h : j ≠ k) : upd f k x j = f j := if_neg h
theorem gs_held {f : Nat → Int32} (h : GS f) {a k : Nat} {x : Int32} (ha : a = 109 + k) (hk : k < 12) (hx : -1 ≤ x.toInt ∧ x.toInt ≤ 2) (hw : x.toInt < (f (25 + k)).toInt ∨ x.toInt = -1) : GS (upd f a x) := by
  subst ha
  have o : ∀ j : Nat, j ≠ 109 + k → upd f (109 + k) x j = f j := fun j hj => upd_ne f x hj
  have hR := h.r
  refine ⟨gp_cong h.1 (o _ (by omega)) (fun k q => o _ (by omega)) (fun k q => o _ (by omega)) (fun k q => o _ (by omega)) (fun k q => o _ (by omega)) (fun k q => by rw [o _ (by omega)]; exact (hR.2.1 k q).2.1) (fun j q => ?_), fun j q => by rw [o _ (by omega), o _ (by omega)]; exact h.2 j q⟩
  by_cases e : j = k
  · subst e
    rw [upd_at]
    refine ⟨hx, fun e => ?_⟩
    have := h.2 j q e
    omega
  · rw [o _ (by omega)]
    exact ⟨(hR.2.1 j q).2.2.2, h.1.2.2.2.2.2.1 j q⟩
theorem gs_pay {f : Nat → Int32} (h : GS f) {a k : Nat} {x : Int32} (ha : a = 13 + k) (hk : k < 12) (hx : 0 ≤ x.toInt ∧ x.toInt ≤ 9) : GS (upd f a x) := by
  subst ha
  have o : ∀ j : Nat, j ≠ 13 + k → upd f (13 + k) x j = f j := fun j hj => upd_ne f x hj
  have hR := h.r
  refine ⟨gp_cong h.1 (o _ (by omega)) (fun k q => o _ (by omega)) (fun k q => o _ (by omega)) (fun k q => o _ (by omega)) (fun k q => o _ (by omega)) (fun j q => ?_) (fun j q => by rw [o _ (by omega)]; exact ⟨(hR.2.1 j q).2.2.2, h.1.2.2.2.2.2.1 j q⟩), fun j q => by rw [o _ (by omega), o _ (by omega)]; exact h.2 j q⟩
  by_cases e : j = k
  · subst e; rw [upd_at]; exact hx
  · rw [o _ (by omega)]; exact (hR.2.1 j q).2.1
theorem gw_upd {f : Nat → Int32} {k i : Nat} {x : Int32} : ∀ n : Nat, gw (upd f (73 + 3 * k + i) x) k n = gw f k n + (if i < n then x.toInt - (f (73 + 3 * k + i)).toInt else 0)
  | 0 => by simp [gw]
  | n + 1 => by
    show gw _ k n + _ = gw f k n + _ + _
    rw [gw_upd n]
    by_cases e : n = i
    · subst e
      rw [upd_at, if_neg (by omega), if_pos (by omega)]
      omega
    · rw [upd_ne _ _ (by omega)]
      by_cases e1 : i < n
      · rw [if_pos e1, if_pos (by omega)]; omega
      · rw [if_neg e1, if_neg (by omega)]; omega
theorem gw_nonneg {f : Nat → Int32} {k : Nat} : ∀ n : Nat, (∀ i : Nat, i < n → 0 ≤ (f (73 + 3 * k + i)).toInt) → 0 ≤ gw f k n
  | 0, _ => by simp [gw]
  | n + 1, h => by
    have := gw_nonneg n (fun i hi => h i (by omega))
    have := h n (by omega)
    show 0 ≤ gw f k n + _
    omega
theorem gs_heavy {f : Nat → Int32} (h : GS f) {a k i : Nat} {x : Int32} (ha : a = 73 + 3 * k + i) (hk : k < 12) (hi : i < 3) (hx : 1 ≤ x.toInt ∧ x.toInt ≤ 3) (hs : (i : Int) < (f (25 + k)).toInt) (h4 : gw f k (f (25 + k)).toInt.toNat - (f (73 + 3 * k + i)).toInt + x.toInt ≤ 4) : GS (upd f a x) := by
  subst ha
  have o : ∀ j : Nat, j ≠ 73 + 3 * k + i → upd f (73 + 3 * k + i) x j = f j := fun j hj => upd_ne f x hj
  obtain ⟨⟨hR, a1, a2, a3, a4, a5, a6, a7, a8⟩, a9⟩ := h
  have n12 : (f 0).toInt.toNat ≤ 12 := by have := hR.1; omega
  have cc : ∀ d : Int, gc (upd f (73 + 3 * k + i) x) d (f 0).toInt.toNat = gc f d (f 0).toInt.toNat := fun d => gc_cong _ (fun j hj => o _ (by omega))
  refine ⟨⟨⟨by rw [o _ (by omega)]; exact hR.1, fun j q => ⟨by rw [o _ (by omega)]; exact (hR.2.1 j q).1, by rw [o _ (by omega)]; exact (hR.2.1 j q).2.1, by rw [o _ (by omega)]; exact (hR.2.1 j q).2.2.1, by rw [o _ (by omega)]; exact (hR.2.1 j q).2.2.2⟩, fun j q => ⟨by rw [o _ (by omega)]; exact (hR.2.2 j q).1, ?_⟩⟩, fun j q => by rw [o _ (by omega), o _ (by omega), o _ (by omega)]; exact a1 j q, fun j q => by rw [o _ (by omega), o _ (by omega)]; exact a2 j q, fun j b q => ?_, fun j q => ?_, fun j q => by rw [o _ (by omega), o _ (by omega), o _ (by omega)]; exact a5 j q, by rw [o _ (by omega), cc]; exact a6, by rw [o _ (by omega), cc]; exact a7, by rw [o _ (by omega), cc]; exact a8⟩, fun j q => by rw [o _ (by omega), o _ (by omega)]; exact a9 j q⟩
  · by_cases e : 73 + j = 73 + 3 * k + i
    · rw [e, upd_at]; omega
    · rw [o _ e]; exact (hR.2.2 j q).2
  · rw [o (25 + j) (by omega), o 0 (by omega)]
    intro hb
    have w3 := (hR.2.1 j q).2.2.1
    rw [o (37 + 3 * j + b) (by omega)]
    by_cases e : 73 + 3 * j + b = 73 + 3 * k + i
    · rw [e, upd_at]; exact ⟨(a3 j b q hb).1, by omega⟩
    · rw [o _ e]; exact a3 j b q hb
  · rw [o (1 + j) (by omega), o (25 + j) (by omega)]
    intro e
    by_cases q2 : j = k
    · subst q2
      rw [gw_upd, if_pos (by omega)]
      omega
    · rw [gw_cong (f := f) _ (fun b hb => o _ (by have := (hR.2.1 j q).2.2.1; omega))]
      exact a4 j q e
theorem tr_addX {x y : Int32} {a b c d : Int} (hx : a ≤ x.toInt ∧ x.toInt ≤ b) (hy : c ≤ y.toInt ∧ y.toInt ≤ d) (h1 : -2147483648 ≤ a + c) (h2 : b + d ≤ 2147483647) : (x + y).toInt = x.toInt + y.toInt := by
  rw [Int32.toInt_add]
  exact tr_bmod (by omega) (by omega)
theorem tr_subX {x y : Int32} {a b c d : Int} (hx : a ≤ x.toInt ∧ x.toInt ≤ b) (hy : c ≤ y.toInt ∧ y.toInt ≤ d) (h1 : -2147483648 ≤ a - d) (h2 : b - c ≤ 2147483647) : (x - y).toInt = x.toInt - y.toInt := by
  rw [Int32.toInt_sub]
  exact tr_bmod (by omega) (by omega)
theorem tr_mulX {x y : Int32} {a b c d : Int} (hx : a ≤ x.toInt ∧ x.toInt ≤ b) (hy : c ≤ y.toInt ∧ y.toInt ≤ d) (h1 : 0 ≤ a ∧ 0 ≤ c) (h2 : b * d ≤ 2147483647) : (x * y).toInt = x.toInt * y.toInt := by
  have m1 : x.toInt * y.toInt ≤ b * d := Int.mul_le_mul hx.2 hy.2 (by omega) (by omega)
  have m0 : 0 ≤ x.toInt * y.toInt := Int.mul_nonneg (by omega) (by omega)
  rw [Int32.toInt_mul]
  exact tr_bmod (by omega) (by omega)
theorem gp_way {f : Nat → Int32} (h : GP f) {a b c K V : Nat} {t w x : Int32} (ha : a = 37 + 3 * K + V) (hb : b = 73 + 3 * K + V) (hc : c = 25 + K) (hK : K < 12) (hk : ¬ (f (1 + K)).toInt = 0) (hV : (f (25 + K)).toInt = (V : Int)) (hV3 : V < 3) (ht : 0 ≤ t.toInt ∧ t.toInt < (f 0).toInt) (hw : 1 ≤ w.toInt ∧ w.toInt ≤ 3) (h4 : (f (1 + K)).toInt = 3 → gw f K V + w.toInt ≤ 4) (hx : x.toInt = (V : Int) + 1) : GP (upd (upd (upd f a t) b w) c x) := by
  subst ha hb hc
  obtain ⟨g, hg⟩ : ∃ g, g = upd (upd (upd f (37 + 3 * K + V) t) (73 + 3 * K + V) w) (25 + K) x := ⟨_, rfl⟩
  rw [← hg]
  obtain ⟨hR, a1, a2, a3, a4, a5, a6, a7, a8⟩ := h
  have o : ∀ j : Nat, j ≠ 37 + 3 * K + V → j ≠ 73 + 3 * K + V → j ≠ 25 + K → g j = f j := fun j h1 h2 h3 => by rw [hg, upd_ne _ _ h3, upd_ne _ _ h2, upd_ne _ _ h1]
  have et : g (37 + 3 * K + V) = t := by rw [hg, upd_ne _ _ (by omega), upd_ne _ _ (by omega), upd_at]
  have ew : g (73 + 3 * K + V) = w := by rw [hg, upd_ne _ _ (by omega), upd_at]
  have ex : g (25 + K) = x := by rw [hg, upd_at]
  have n12 := hR.1
  have e0 : g 0 = f 0 := o _ (by omega) (by omega) (by omega)
  have ek : ∀ j : Nat, j < 12 → g (1 + j) = f (1 + j) := fun j q => o _ (by omega) (by omega) (by omega)
  have cc : ∀ d : Int, gc g d (f 0).toInt.toNat = gc f d (f 0).toInt.toNat := fun d => gc_cong _ (fun j hj => ek j (by omega))
  have hKn : (K : Int) < (f 0).toInt := by
    by_cases q : (f 0).toInt ≤ K
    · exact absurd (a1 K hK q).1 hk
    · omega
  have gwo : ∀ j n : Nat, j < 12 → j ≠ K → n ≤ 3 → gw g j n = gw f j n := fun j n q e hn => gw_cong _ (fun i hi => o _ (by omega) (by omega) (by omega))
  refine ⟨⟨by rw [e0]; exact hR.1, fun j q => ⟨by rw [ek j q]; exact (hR.2.1 j q).1, by rw [o _ (by omega) (by omega) (by omega)]; exact (hR.2.1 j q).2.1, ?_, by rw [o _ (by omega) (by omega) (by omega)]; exact (hR.2.1 j q).2.2.2⟩, fun j q => ⟨?_, ?_⟩⟩, fun j q hq => ⟨by rw [ek j q]; rw [e0] at hq; exact (a1 j q hq).1, ?_⟩, fun j q hq => ?_, fun j i q hi => ?_, fun j q hq => ?_, fun j q hq => ?_, by rw [e0, cc]; exact a6, by rw [e0, cc]; exact a7, by rw [e0, cc]; exact a8⟩
  · by_cases e : j = K
    · subst e; rw [ex]; omega
    · rw [o _ (by omega) (by omega) (by omega)]; exact (hR.2.1 j q).2.2.1
  · by_cases e : 37 + j = 37 + 3 * K + V
    · rw [e, et]; omega
    · rw [o _ e (by omega) (by omega)]; exact (hR.2.2 j q).1
  · by_cases e : 73 + j = 73 + 3 * K + V
    · rw [e, ew]; omega
    · rw [o _ (by omega) e (by omega)]; exact (hR.2.2 j q).2
  · rw [e0] at hq
    rw [o _ (by omega) (by omega) (by omega)]; exact (a1 j q hq).2
  · rw [ek j q] at hq
    by_cases e : j = K
    · subst e; exact absurd hq hk
    · rw [o _ (by omega) (by omega) (by omega)]; exact a2 j q hq
  · rw [e0]
    by_cases e : j = K
    · subst e
      rw [ex] at hi
      by_cases e2 : i = V
      · subst e2; rw [et, ew]; omega
      · rw [o _ (by omega) (by omega) (by omega), o _ (by omega) (by omega) (by omega)]; exact a3 j i q (by omega)
    · rw [o (25 + j) (by omega) (by omega) (by omega)] at hi
      have := (hR.2.1 j q).2.2.1
      rw [o _ (by omega) (by omega) (by omega), o _ (by omega) (by omega) (by omega)]; exact a3 j i q hi
  · rw [ek j q] at hq
    by_cases e : j = K
    · subst e
      rw [ex, hx, show ((V : Int) + 1).toNat = V + 1 by omega]
      show gw g j V + (g (73 + 3 * j + V)).toInt ≤ 4
      rw [ew, gw_cong (f := f) V (fun i hi => o _ (by omega) (by omega) (by omega))]
      exact h4 hq
    · have := (hR.2.1 j q).2.2.1
      rw [o (25 + j) (by omega) (by omega) (by omega), gwo j _ q e (by omega)]; exact a4 j q hq
  · rw [ek j q] at hq
    rw [o (109 + j) (by omega) (by omega) (by omega)]
    by_cases e : j = K
    · subst e; rw [ex]; have := a5 j q hq; omega
    · rw [o (25 + j) (by omega) (by omega) (by omega)]; exact a5 j q hq
theorem gp_node {f g : Nat → Int32} (h : GP f) {n : Nat} (hn : (f 0).toInt = (n : Int)) (h0 : (g 0).toInt = (n : Int) + 1) (hk : ∀ k : Nat, k < 12 → k ≠ n → g (1 + k) = f (1 + k)) (hkn : 0 ≤ (g (1 + n)).toInt ∧ (g (1 + n)).toInt ≤ 3) (hw : ∀ k : Nat, k < 12 → g (25 + k) = f (25 + k)) (ht : ∀ j : Nat, j < 36 → g (37 + j) = f (37 + j)) (hh : ∀ j : Nat, j < 36 → g (73 + j) = f (73 + j)) (hp : ∀ k : Nat, k < 12 → 0 ≤ (g (13 + k)).toInt ∧ (g (13 + k)).toInt ≤ 9) (hd : ∀ k : Nat, k < 12 → k ≠ n → g (109 + k) = f (109 + k)) (hdn : (g (109 + n)).toInt = -1)
    (c0 : (g (1 + n)).toInt = 0 → ¬ gc f 0 n = 4) (c1 : ¬ (g (1 + n)).toInt = 0 → ¬ (n : Int) - gc f 0 n = 8) (c3 : (g (1 + n)).toInt = 3 → ¬ gc f 3 n = 5) : n < 12 ∧ GP g := by
  obtain ⟨hR, a1, a2, a3, a4, a5, a6, a7, a8⟩ := h
  have en : (f 0).toInt.toNat = n := by omega
  rw [en] at a6 a7 a8
  have n12 : n < 12 := by
    by_cases q : (g (1 + n)).toInt = 0
    · have := c0 q; omega
    · have := c1 q; omega
  have en1 : (g 0).toInt.toNat = n + 1 := by omega
  have w3 : ∀ k : Nat, k < 12 → (f (25 + k)).toInt.toNat ≤ 3 := fun k q => by have := (hR.2.1 k q).2.2.1; omega
  have cc : ∀ d : Int, gc g d (n + 1) = gc f d n + (if (g (1 + n)).toInt = d then 1 else 0) := fun d => by
    show gc g d n + _ = _
    rw [gc_cong (f := f) n (fun i hi => hk i (by omega) (by omega))]
  have wn : (f (25 + n)).toInt = 0 := (a1 n n12 (by omega)).2
  refine ⟨n12, ⟨by omega, fun k q => ⟨?_, hp k q, by rw [hw k q]; exact (hR.2.1 k q).2.2.1, ?_⟩, fun j q => ⟨by rw [ht j q]; exact (hR.2.2 j q).1, by rw [hh j q]; exact (hR.2.2 j q).2⟩⟩, fun k q hq => ?_, fun k q hq => ?_, fun k i q hi => ?_, fun k q hq => ?_, fun k q hq => ?_, ?_, ?_, ?_⟩
  · by_cases e : k = n
    · subst e; exact hkn
    · rw [hk k q e]; exact (hR.2.1 k q).1
  · by_cases e : k = n
    · subst e; omega
    · rw [hd k q e]; exact (hR.2.1 k q).2.2.2
  · rw [hw k q, hk k q (by omega)]; exact a1 k q (by omega)
  · by_cases e : k = n
    · subst e; rw [hw k q]; exact wn
    · rw [hk k q e] at hq; rw [hw k q]; exact a2 k q hq
  · rw [hw k q] at hi
    have := w3 k q
    have e1 : g (37 + 3 * k + i) = f (37 + 3 * k + i) := by rw [show 37 + 3 * k + i = 37 + (3 * k + i) by omega]; exact ht _ (by omega)
    have e2 : g (73 + 3 * k + i) = f (73 + 3 * k + i) := by rw [show 73 + 3 * k + i = 73 + (3 * k + i) by omega]; exact hh _ (by omega)
    rw [e1, e2]
    have := a3 k i q hi
    omega
  · by_cases e : k = n
    · subst e; rw [hw k q, wn]; simp [gw]
    · rw [hk k q e] at hq
      rw [hw k q, gw_cong (f := f) _ (fun i hi => by rw [show 73 + 3 * k + i = 73 + (3 * k + i) by omega]; exact hh _ (by have := w3 k q; omega))]
      exact a4 k q hq
  · by_cases e : k = n
    · subst e; rw [hw k q, wn]; omega
    · rw [hk k q e] at hq; rw [hw k q, hd k q e]; exact a5 k q hq
  · rw [en1, cc]
    by_cases q : (g (1 + n)).toInt = 0
    · rw [if_pos q]; have := c0 q; omega
    · rw [if_neg q]; omega
  · rw [en1, cc]
    by_cases q : (g (1 + n)).toInt = 0
    · rw [if_pos q]; omega
    · rw [if_neg q]; have := c1 q; omega
  · rw [en1, cc]
    by_cases q : (g (1 + n)).toInt = 3
    · rw [if_pos q]; have := c3 q; omega
    · rw [if_neg q]; omega
