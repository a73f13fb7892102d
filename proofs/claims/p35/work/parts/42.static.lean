/-- the five words, in a static row that nobody writes -/
def ZK (kn : Nat) (kf : Nat → Int32) (A : Nat → Prop) (U : State) (H : Heap) : Prop := va_Z "ChanceRingsModel" "KNOWN" "[B" (.ref kn) A U H ∧ va_T .byte kn 30 (fun j => .int (kf j)) A U H
theorem ZK.moved {kn : Nat} {kf : Nat → Int32} {A : Nat → Prop} {u U : State} {H : Heap} (hvm : u.vm.Alike U.vm) (h : ZK kn kf A u H) : ZK kn kf A U H := ⟨va_Z.moved hvm h.1, va_T.moved hvm h.2⟩
theorem ZK.kept {kn : Nat} {kf : Nat → Int32} {A B : Nat → Prop} {s : State} {H0 H : Heap} {locs : List Loc} (h : ZK kn kf A s H0) (hS : va_S A H0 H locs) (hB : ∀ q, B q → A q) : ZK kn kf B s H := ⟨(h.1.kept hS.2.1).narrow hB, (h.2.kept hS.2.1).narrow hB⟩
theorem tz_blQK {D : va_G} {av : List Value} {w : va_W} {tys : List (ClassId × FieldType)} {sz : Nat} {A : Nat → Prop} {kn : Nat} {kf : Nat → Int32} : FrameBlind (va_Pc av (fun U => U.heap.size = sz ∧ va_P D vwCl w U.heap ∧ va_K D vwCl tys U ∧ va_D (fun _ => True) w ∧ ZK kn kf A U U.heap)) := fun a U g mk q => by
  obtain ⟨q0, q1, qP, qK, qD, qZ⟩ := q
  exact ⟨q0, q1, qP, va_K.moved (u := U) (U := U.calling g mk a) (Vm.Alike.refl U.vm) qK, qD, ZK.moved (u := U) (U := U.calling g mk a) (Vm.Alike.refl U.vm) qZ⟩
theorem tz_preQK {D : va_G} {s : State} {H : Heap} {w : va_W} {tys : List (ClassId × FieldType)} {av : List Value} {A B : Nat → Prop} {kn : Nat} {kf : Nat → Int32} (hP : va_P D vwCl w H) (hK : va_K D vwCl tys s) (hD : va_D A w) (hZ : ZK kn kf B s H) : ∀ U : State, U.heap = H → s.WarmedH U.vm → va_Pc av (fun U => U.heap.size = H.size ∧ va_P D vwCl w U.heap ∧ va_K D vwCl tys U ∧ va_D (fun _ => True) w ∧ ZK kn kf B U U.heap) av.toArray U := fun U hU hW => ⟨rfl, by rw [hU], by rw [hU]; exact hP, va_K.moved hW.alike hK, hD.weaken (fun _ _ _ _ => trivial), by rw [hU]; exact hZ.moved hW.alike⟩
theorem tz_blSK {D : va_G} {av : List Value} {w : va_W} {tys : List (ClassId × FieldType)} {A : Nat → Prop} {kn : Nat} {kf : Nat → Int32} : FrameBlind (va_Pc av (fun U => va_P D vwCl w U.heap ∧ va_K D vwCl tys U ∧ ZK kn kf A U U.heap)) := fun a U g mk q => by
  obtain ⟨q0, qP, qK, qZ⟩ := q
  exact ⟨q0, qP, va_K.moved (u := U) (U := U.calling g mk a) (Vm.Alike.refl U.vm) qK, ZK.moved (u := U) (U := U.calling g mk a) (Vm.Alike.refl U.vm) qZ⟩
theorem tz_preSK {D : va_G} {s : State} {H : Heap} {w : va_W} {tys : List (ClassId × FieldType)} {av : List Value} {A : Nat → Prop} {kn : Nat} {kf : Nat → Int32} (hP : va_P D vwCl w H) (hK : va_K D vwCl tys s) (hZ : ZK kn kf A s H) : ∀ U : State, U.heap = H → s.WarmedH U.vm → va_Pc av (fun U => va_P D vwCl w U.heap ∧ va_K D vwCl tys U ∧ ZK kn kf A U U.heap) av.toArray U := fun U hU hW => ⟨rfl, by rw [hU]; exact hP, va_K.moved hW.alike hK, by rw [hU]; exact hZ.moved hW.alike⟩
/-- the byte ahead: -1 behind the last -/
def pkb (f : Nat → Int32) (p z : Int32) : Int := if p.toInt < z.toInt then (f p.toNatClampNeg &&& 255).toInt else -1
theorem pkb_in {f : Nat → Int32} {p z : Int32} (h : p.toInt < z.toInt) : (f p.toNatClampNeg &&& 255).toInt = pkb f p z := (if_pos h).symm
theorem pkb_out {f : Nat → Int32} {p z : Int32} (h : ¬ p.toInt < z.toInt) : (-1 : Int) = pkb f p z := (if_neg h).symm
theorem tr_and255 (x : Int32) : 0 ≤ (x &&& 255).toInt ∧ (x &&& 255).toInt ≤ 255 := by
  have h1 : (x &&& 255).toBitVec = x.toBitVec &&& 255#32 := rfl
  have h2 : (x &&& 255).toInt = ((x &&& 255).toBitVec).toInt := rfl
  rw [h2, h1]
  have h3 : (x.toBitVec &&& 255#32).toNat ≤ 255 := by
    rw [BitVec.toNat_and]
    exact Nat.and_le_right
  rw [BitVec.toInt_eq_toNat_cond]
  split <;> omega
/-- the five words' number, or -1: anything else -/
theorem gp_done {f : Nat → Int32} (h : GP f) (hw : ∀ k : Nat, (k : Int) < (f 0).toInt → ¬ (f (1 + k)).toInt = 0 → ¬ (f (25 + k)).toInt = 0) : GS f := by
  refine ⟨h, fun k hk e => ?_⟩
  have h1 := (h.1.2.1 k hk).2.2.1
  by_cases q : (f 0).toInt ≤ k
  · exact absurd (h.2.1 k hk q).1 e
  · have := hw k (by omega) e
    omega
theorem gc_step {f : Nat → Int32} {d v : Int32} {n : Int} {i : Nat} (hn : n = gc f d.toInt i) (hv : v = f (1 + i)) : (v = d → n + 1 = gc f d.toInt (i + 1)) ∧ (¬ v = d → n + 0 = gc f d.toInt (i + 1)) := by
  subst hn hv
  constructor
  · intro e
    show _ = gc f d.toInt i + _
    rw [if_pos (by rw [e])]
  · intro e
    show _ = gc f d.toInt i + _
    rw [if_neg (fun q => e (Int32.toInt_inj.mp q))]
theorem gc_next {f : Nat → Int32} {d n v : Int32} {d' t : Int} {i j : Nat} (hn : n.toInt = gc f d.toInt i) (hv : v = f (1 + i)) (hj : j = i + 1) : (v.toInt = d.toInt → t = n.toInt + 1 → t = gc f d.toInt j) ∧ (¬ v.toInt = d.toInt → t = n.toInt + 0 → t = gc f d.toInt j) := by
  subst hj hv
  constructor
  · intro e h
    show _ = gc f d.toInt i + _
    rw [if_pos e, h, hn]
  · intro e h
    show _ = gc f d.toInt i + _
    rw [if_neg e, h, hn]
theorem gw_next {f : Nat → Int32} {n v : Int32} {t : Int} {k i j : Nat} (hn : n.toInt = gw f k i) (hv : v = f (73 + 3 * k + i)) (hj : j = i + 1) (h : t = n.toInt + v.toInt) : t = gw f k j := by
  subst hj hv
  show _ = gw f k i + _
  rw [h, hn]
theorem upd_below {f F G : Nat → Int32} {B a : Nat} {x : Int32} (h : ∀ j : Nat, j < B → F j = f j) (hG : G = upd F a x) (ha : B ≤ a) : ∀ j : Nat, j < B → G j = f j := fun j hj => by
  rw [hG, upd_ne _ _ (by omega)]; exact h j hj
theorem gp_node2 {f F g : Nat → Int32} (h : GP f) (hF : ∀ j : Nat, j < 121 → F j = f j) {n a b : Nat} {x y w : Int32} (ha : a = 1 + n) (hb : b = 109 + n) (hg : g = upd (upd (upd F a x) b y) 0 w) (hn : (f 0).toInt = (n : Int)) (hn12 : n < 12) (hx : 0 ≤ x.toInt ∧ x.toInt ≤ 3) (hy : y.toInt = -1) (hw : w.toInt = (n : Int) + 1) (c0 : x.toInt = 0 → ¬ gc f 0 n = 4) (c1 : ¬ x.toInt = 0 → ¬ (n : Int) - gc f 0 n = 8) (c3 : x.toInt = 3 → ¬ gc f 3 n = 5) : GP g := by
  subst ha hb
  have o : ∀ j : Nat, j < 121 → j ≠ 1 + n → j ≠ 109 + n → j ≠ 0 → g j = f j := fun j h0 h1 h2 h3 => by rw [hg, upd_ne _ _ h3, upd_ne _ _ h2, upd_ne _ _ h1]; exact hF j h0
  have e1 : g (1 + n) = x := by rw [hg, upd_ne _ _ (by omega), upd_ne _ _ (by omega), upd_at]
  have e2 : g (109 + n) = y := by rw [hg, upd_ne _ _ (by omega), upd_at]
  have e0 : g 0 = w := by rw [hg, upd_at]
  exact (gp_node h hn (by rw [e0]; exact hw) (fun k q e => o _ (by omega) (by omega) (by omega) (by omega)) (by rw [e1]; exact hx) (fun k q => o _ (by omega) (by omega) (by omega) (by omega)) (fun k q => o _ (by omega) (by omega) (by omega) (by omega)) (fun k q => o _ (by omega) (by omega) (by omega) (by omega)) (fun k q => by rw [o _ (by omega) (by omega) (by omega) (by omega)]; exact (h.1.2.1 k q).2.1) (fun k q e => o _ (by omega) (by omega) (by omega) (by omega)) (by rw [e2]; exact hy) (by rw [e1]; exact c0) (by rw [e1]; exact c1) (by rw [e1]; exact c3)).2
theorem gp_node3 {f F g : Nat → Int32} (h : GP f) (hF : ∀ j : Nat, j < 121 → F j = f j) {n a b c : Nat} {x y w v : Int32} (ha : a = 1 + n) (hb : b = 109 + n) (hc : c = 13 + n) (hg : g = upd (upd (upd (upd F a x) b y) c v) 0 w) (hn : (f 0).toInt = (n : Int)) (hn12 : n < 12) (hx : 0 ≤ x.toInt ∧ x.toInt ≤ 3) (hy : y.toInt = -1) (hw : w.toInt = (n : Int) + 1) (hv : 0 ≤ v.toInt ∧ v.toInt ≤ 9) (c0 : x.toInt = 0 → ¬ gc f 0 n = 4) (c1 : ¬ x.toInt = 0 → ¬ (n : Int) - gc f 0 n = 8) (c3 : x.toInt = 3 → ¬ gc f 3 n = 5) : GP g := by
  subst ha hb hc
  have o : ∀ j : Nat, j < 121 → j ≠ 1 + n → j ≠ 109 + n → j ≠ 13 + n → j ≠ 0 → g j = f j := fun j h0 h1 h2 h4 h3 => by rw [hg, upd_ne _ _ h3, upd_ne _ _ h4, upd_ne _ _ h2, upd_ne _ _ h1]; exact hF j h0
  have e1 : g (1 + n) = x := by rw [hg, upd_ne _ _ (by omega), upd_ne _ _ (by omega), upd_ne _ _ (by omega), upd_at]
  have e2 : g (109 + n) = y := by rw [hg, upd_ne _ _ (by omega), upd_ne _ _ (by omega), upd_at]
  have e3 : g (13 + n) = v := by rw [hg, upd_ne _ _ (by omega), upd_at]
  have e0 : g 0 = w := by rw [hg, upd_at]
  exact (gp_node h hn (by rw [e0]; exact hw) (fun k q e => o _ (by omega) (by omega) (by omega) (by omega) (by omega)) (by rw [e1]; exact hx) (fun k q => o _ (by omega) (by omega) (by omega) (by omega) (by omega)) (fun k q => o _ (by omega) (by omega) (by omega) (by omega) (by omega)) (fun k q => o _ (by omega) (by omega) (by omega) (by omega) (by omega)) (fun k q => by
    by_cases e : k = n
    · subst e; rw [e3]; exact hv
    · rw [o _ (by omega) (by omega) (by omega) (by omega) (by omega)]; exact (h.1.2.1 k q).2.1) (fun k q e => o _ (by omega) (by omega) (by omega) (by omega) (by omega)) (by rw [e2]; exact hy) (by rw [e1]; exact c0) (by rw [e1]; exact c1) (by rw [e1]; exact c3)).2
/-- a name's letters and the rest: a row goes on as it stood -/
theorem upd_fill {F G : Nat → Int32} {v x : Int32} {i a : Nat} (h : ∀ j : Nat, j < i → F j = v) (hG : G = upd F a x) (ha : a = i) (hx : x = v) : ∀ j : Nat, j < i + 1 → G j = v := fun j hj => by
  subst ha hx
  rw [hG]
  by_cases e : j = a
  · subst e; rw [upd_at]
  · rw [upd_ne _ _ e]; exact h j (by omega)
theorem va_cpy_step {f h F : Nat → Int32} {sp dp n : Nat} (hF : F = va_cpy f h sp dp n) {a : Nat} {v : Int32} (ha : a = dp + n) (hv : v = f (sp + n)) : upd F a v = va_cpy f h sp dp (n + 1) := by
  subst hF ha hv
  funext j
  unfold va_cpy
  by_cases e : j = dp + n
  · subst e
    rw [upd_at, if_pos (by omega), show sp + (dp + n - dp) = sp + n by omega]
  · rw [upd_ne _ _ e]
    by_cases q : dp ≤ j ∧ j < dp + n
    · rw [if_pos q, if_pos (by omega)]
    · rw [if_neg q, if_neg (by omega)]
theorem va_cpy_zero (f h : Nat → Int32) (sp dp : Nat) : h = va_cpy f h sp dp 0 := by
  funext j
  unfold va_cpy
  rw [if_neg (by omega)]
theorem gs_cong {f g : Nat → Int32} (h : GS f) (e : ∀ j : Nat, j < 193 → g j = f j) : GS g := by
  refine ⟨gp_cong h.1 (e _ (by omega)) (fun k q => e _ (by omega)) (fun k q => e _ (by omega)) (fun k q => e _ (by omega)) (fun k q => e _ (by omega)) (fun k q => by rw [e _ (by omega)]; exact (h.r.2.1 k q).2.1) (fun k q => by rw [e _ (by omega)]; exact ⟨(h.r.2.1 k q).2.2.2, h.1.2.2.2.2.2.1 k q⟩), fun k q => ?_⟩
  rw [e _ (by omega), e _ (by omega)]
  exact h.2 k q
/-- the slot of a row of rows -/
def sl (f : Nat → Int32) (a : Nat) : Nat → Int32 := fun i => f (a + i)
theorem gs_cpy_in {f h g : Nat → Int32} {sp dp : Nat} (hf : GS (sl f sp)) (hg : g = va_cpy f h sp dp 193) : GS (sl g dp) := gs_cong hf (fun j q => by
  subst hg
  show va_cpy f h sp dp 193 (dp + j) = f (sp + j)
  unfold va_cpy
  rw [if_pos (by omega), show dp + j - dp = j by omega])
theorem gs_cpy_out {f h g : Nat → Int32} {sp dp a : Nat} (hf : GS (sl h a)) (hg : g = va_cpy f h sp dp 193) (hd : a + 193 ≤ dp ∨ dp + 193 ≤ a) : GS (sl g a) := gs_cong hf (fun j q => by
  subst hg
  show va_cpy f h sp dp 193 (a + j) = h (a + j)
  unfold va_cpy
  rw [if_neg (by omega)])
theorem sl_zero (f : Nat → Int32) : sl f 0 = f := funext (fun i => by show f (0 + i) = f i; rw [Nat.zero_add])
/-- a fact that stands by till it is called for -/
def Hide (p : Prop) : Prop := p
theorem Hide.get {p : Prop} (h : Hide p) : p := h
/-- a token while it is read: so many bytes, the number, how many of them letters -/
def NX (n num sm : Int) : Prop := 0 ≤ sm ∧ sm ≤ n ∧ 0 ≤ num ∧ num ≤ 814 ∧ (n = 0 → num = 0) ∧ (n = 1 → num ≤ 74) ∧ (sm = 0 → num ≤ 99 ∧ (n = 1 → num ≤ 9))
theorem NX_zero {n num sm : Int} (h1 : n = 0) (h2 : num = 0) (h3 : sm = 0) : NX n num sm := by subst h1 h2 h3; unfold NX; omega
theorem NX_rng {n num sm : Int} (h : NX n num sm) : 0 ≤ num ∧ num ≤ 814 := ⟨h.2.2.1, h.2.2.2.1⟩
theorem NX_sm {n num sm : Int} (h : NX n num sm) : 0 ≤ sm ∧ sm ≤ n := ⟨h.1, h.2.1⟩
theorem NX_end {n num sm : Int} (h : NX n num sm) (e : sm = 0) : num ≤ 99 := (h.2.2.2.2.2.2 e).1
theorem NX_go {n num sm n' num' sm' c : Int} (h : NX n num sm) (hn : n' = n + 1) (hc : (97 ≤ c ∧ c ≤ 122 ∧ sm' = sm + 1) ∨ (48 ≤ c ∧ c ≤ 57 ∧ sm' = sm)) (hu : (n < 2 ∧ num' = 10 * num + c - 48) ∨ (2 ≤ n ∧ num' = num)) : NX n' num' sm' := by
  unfold NX at *
  rcases hc with hc | hc <;> rcases hu with hu | hu <;> omega
theorem pkb_cg {f : Nat → Int32} {p q z : Int32} (h : p.toInt = q.toInt) : pkb f p z = pkb f q z := by rw [Int32.toInt_inj.mp h]
