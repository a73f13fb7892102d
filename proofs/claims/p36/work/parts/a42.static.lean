/-- the five words, in a static row that nobody writes -/
def ZK (kn : Nat) (kf : Nat → Int32) (A : Nat → Prop) (U : State) (H : Heap) : Prop := va_Z "ChanceRingsModel" "KNOWN" "[B" (.ref kn) A U H ∧ va_T .byte kn 30 (fun j => .int (kf j)) A U H
theorem ZK.moved {kn : Nat} {kf : Nat → Int32} {A : Nat → Prop} {u U : State} {H : Heap} (hvm : u.vm.Alike U.vm) (h : ZK kn kf A u H) : ZK kn kf A U H := ⟨va_Z.moved hvm h.1, va_T.moved hvm h.2⟩
theorem ZK.kept {kn : Nat} {kf : Nat → Int32} {A B : Nat → Prop} {s : State} {H0 H : Heap} {locs : List Loc} (h : ZK kn kf A s H0) (hS : va_S A H0 H locs) (hB : ∀ q, B q → A q) : ZK kn kf B s H := ⟨(h.1.kept hS.2.1).narrow hB, (h.2.kept hS.2.1).narrow hB⟩
theorem tz_blQK {D : va_G} {av : List Value} {w : va_W} {tys : List (ClassId × FieldType)} {sz : Nat} {A : Nat → Prop} {kn : Nat} {kf : Nat → Int32} : FrameBlind (va_Pc av (fun U => U.heap.size = sz ∧ va_P D vwCl w U.heap ∧ va_K D vwCl tys U ∧ va_D (fun _ => True) w ∧ ZK kn kf A U U.heap)) := fun a U g mk q => by
  obtain ⟨q0, q1, qP, qK, qD, qZ⟩ := q
  exact ⟨q0, q1, qP, va_K.moved (u := U) (U := U.calling g mk a) (Vm.Alike.refl U.vm) qK, qD, ZK.moved (u := U) (U := U.calling g mk a) (Vm.Alike.refl U.vm) qZ⟩
theorem tz_preQK {D : va_G} {s : State} {H : Heap} {w : va_W} {tys : List (ClassId × FieldType)} {av : List Value} {A B : Nat → Prop} {kn : Nat} {kf : Nat → Int32} (hP : va_P D vwCl w H) (hK : va_K D vwCl tys s) (hD : va_D A w) (hZ : ZK kn kf B s H) : ∀ U : State, U.heap = H → s.WarmedH U.vm → va_Pc av (fun U => U.heap.size = H.size ∧ va_P D vwCl w U.heap ∧ va_K D vwCl tys U ∧ va_D (fun _ => True) w ∧ ZK kn kf B U U.heap) av.toArray U := fun U hU hW => ⟨rfl, by rw [hU], by rw [hU]; exact hP, va_K.moved hW.alike hK, hD.weaken (fun _ _ _ _ => trivial), by rw [hU]; exact hZ.moved hW.alike⟩
theorem tz_blSK {D : va_G} {av : List Value} {w : va_W} {tys : List (ClassId × FieldType)} {A : Nat → Prop} {kn : Nat} {kf : Nat → Int32} : FrameBlind (va_Pc av (fun U => va_P D vwCl w U.heap ∧ va_K D vwCl tys U ∧ ZK kn kf A U U.heap)) := fun a U g mk q => by
  obtain ⟨q0, qP, qK, qZ⟩ := q
  exact ⟨q0, qP, va_K.moved (u := U) (U := U.calling g mk a) (Vm.Alike.refl U.vm) qK, ZK.moved (u := U) (U := U.calling g mk a) (Vm.Alike.refl U.vm) qZ⟩
theorem tz_preSK {D : va_G} {s : State} {H : Heap} {w : va_W} {tys : List (ClassId × FieldType)} {av : List Value} {A : Nat → Prop} {kn : Nat} {kf : Nat → Int32} (hP : va_P D vwCl w H) (hK : va_K D vwCl tys s) (hZ : ZK kn kf A s H) : ∀ U : State, U.heap = H → s.WarmedH U.vm → va_Pc av (fun U => va_P D vwCl w U.heap ∧ va_K D vwCl tys U ∧ ZK kn kf A U U.heap) av.toArray U := fun U hU hW => ⟨rfl, by rw [hU]; exact hP, va_K.moved hW.alike hK, by rw [hU]; exact hZ.moved hW.alike⟩
/-- the byte ahead: -1 behind the last -/
def pkb (f : Nat → Int32) (p z : Int32) : Int := if p.toInt < z.toInt then (f p.toNatClampNeg &&& 255).toInt else -1
theorem pkb_in {f : Nat → Int32} {p z : Int32} (h : p.toInt < z.toInt) : (f p.toNatClampNeg &&& 255).toInt = pkb f p z := (if_pos h).symm
theorem pkb_out {f : Nat → Int32} {p z : Int32} (h : ¬ p.toInt < z.toInt) : (-1 : Int) = pkb f p z := (if_neg h).symm
theorem tr_and255 (x : Int32) : 0 ≤ (x &&& 255).toInt ∧ (x &&& 255).toInt ≤ 255 := by
  have h1 : (x &&& 255).toBitVec = x.toBitVec &&& 255#32 := rfl
  have h2 : (x &&& 255).toInt = ((x &&& 255).toBitVec).toInt := rfl
  rw [h2, h1]
  have h3 : (x.toBitVec &&& 255#32).toNat ≤ 255 := by
    rw [BitVec.toNat_and]
    exact Nat.and_le_right
  rw [BitVec.toInt_eq_toNat_cond]
  split <;> omega
/-- the five words' number, or -1: anything else -/
theorem gp_done {f : Nat → Int32} (h : GP f) (hw : ∀ k : Nat, (k : Int) < (f 0).toInt → ¬ (f (1 + k)).toInt = 0 → ¬ (f (25 + k)).toInt = 0) : GS f := by
  refine ⟨h, fun k hk e => ?_⟩
  have h1 := (h.1.2.1 k hk).2.2.1
  by_cases q : (f 0).toInt ≤ k
  · exact absurd (h.2.1 k hk q).1 e
  · have := hw k (by omega) e
    omega
theorem gc_step {f : Nat → Int32} {d v : Int32} {n : Int} {i : Nat} (hn : n = gc f d.toInt i) (hv : v = f (1 + i)) : (v = d → n + 1 = gc f d.toInt (i + 1)) ∧ (¬ v = d → n + 0 = gc f d.toInt (i + 1)) := by
  subst hn hv
  constructor
  · intro e
    show _ = gc f d.toInt i + _
    rw [if_pos (by rw [e])]
  · intro e
    show _ = gc f d.toInt i + _
    rw [if_neg (fun q => e (Int32.toInt_inj.mp q))]
theorem gc_next {f : Nat → Int32} {d n v : Int32} {d' t : Int} {i j : Nat} (hn : n.toInt = gc f d.toInt i) (hv : v = f (1 + i)) (hj : j = i + 1) : (v.toInt = d.toInt → t = n.toInt + 1 → t = gc f d.toInt j) ∧ (¬ v.toInt = d.toInt → t = n.toInt + 0 → t = gc f d.toInt j) := by
  subst hj hv
  constructor
  · intro e h
    show _ = gc f d.toInt i + _
    rw [if_pos e, h, hn]
  · intro e h
    show _ = gc f d.toInt i + _
    rw [if_neg e, h, hn]
theorem gw_next {f : Nat → Int32} {n v : Int32} {t : Int} {k i j : Nat} (hn : n.toInt = gw f k i) (hv : v = f (73 + 3 * k + i)) (hj : j = i + 1) (h : t = n.toInt + v.toInt) : t = gw f k j := by
  subst hj hv
  show _ = gw f k i + _
  rw [h, hn]
theorem upd_below {f F G : Nat → Int32} {B a : Nat} {x : Int32} (h : ∀ j : Nat, j < B → F j = f j) (hG : G = upd F a x) (ha : B ≤ a) : ∀ j : Nat, j < B → G j = f j := fun j hj => by
  rw [hG, upd_ne _ _ (by omega)]; exact h j hj
theorem gp_node2 {f F g : Nat → Int32} (h : GP f) (hF : ∀ j : Nat, j < 121 → F j = f j) {n a b : Nat} {x y w : Int32} (ha : a = 1 + n) (hb : b = 109 + n) (hg : g = upd (upd (upd F a x) b y) 0 w) (hn : (f 0).toInt = (n : Int)) (hn12 : n < 12) (hx : 0 ≤ x.toInt ∧ x.toInt ≤ 3) (hy : y.toInt = -1) (hw : w.toInt = (n : Int) + 1) (c0 : x.toInt = 0 → ¬ gc f 0 n = 4) (c1 : ¬ x.toInt = 0 → ¬ (n : Int) - gc f 0 n = 8) (c3 : x.toInt = 3 → ¬ gc f 3 n = 5) : GP g := by
  subst ha hb
  have o : ∀ j : Nat, j < 121 → j ≠ 1 + n → j ≠ 109 + n → j ≠ 0 → g j = f j := fun j h0 h1 h2 h3 => by rw [hg, upd_ne _ _ h3, upd_ne _ _ h2, upd_ne _ _ h1]; exact hF j h0
  have e1 : g (1 + n) = x := by rw [hg, upd_ne _ _ (by omega), upd_ne _ _ (by omega), upd_at]
  have e2 : g (109 + n) = y := by rw [hg, upd_ne _ _ (by omega), upd_at]
  have e0 : g 0 = w := by rw [hg, upd_at]
  exact (gp_node h hn (by rw [e0]; exact hw) (fun k q e => o _ (by omega) (by omega) (by omega) (by omega)) (by rw [e1]; exact hx) (fun k q => o _ (by omega) (by omega) (by omega) (by omega)) (fun k q => o _ (by omega) (by omega) (by omega) (by omega)) (fun k q => o _ (by omega) (by omega) (by omega) (by omega)) (fun k q => by rw [o _ (by omega) (by omega) (by omega) (by omega)]; exact (h.1.2.1 k q).2.1) (fun k q e => o _ (by omega) (by omega) (by omega) (by omega)) (by rw [e2]; exact hy) (by rw [e1]; exact c0) (by rw [e1]; exact c1) (by rw [e1]; exact c3)).2
theorem gp_node3 {f F g : Nat → Int32} (h : GP f) (hF : ∀ j : Nat, j < 121 → F j = f j) {n a b c : Nat} {x y w v : Int32} (ha : a = 1 + n) (hb : b = 109 + n) (hc : c = 13 + n) (hg : g = upd (upd (upd (upd F a x) b y) c v) 0 w) (hn : (f 0).toInt = (n : Int)) (hn12 : n < 12) (hx : 0 ≤ x.toInt ∧ x.toInt ≤ 3) (hy : y.toInt = -1) (hw : w.toInt = (n : Int) + 1) (hv : 0 ≤ v.toInt ∧ v.toInt ≤ 9) (c0 : x.toInt = 0 → ¬ gc f 0 n = 4) (c1 : ¬ x.toInt = 0 → ¬ (n : Int) - gc f 0 n = 8) (c3 : x.toInt = 3 → ¬ gc f 3 n = 5) : GP g := by
  subst ha hb hc
  have o : ∀ j : Nat, j < 121 → j ≠ 1 + n → j ≠ 109 + n → j ≠ 13 + n → j ≠ 0 → g j = f j := fun j h0 h1 h2 h4 h3 => by rw [hg, upd_ne _ _ h3, upd_ne _ _ h4, upd_ne _ _ h2, upd_ne _ _ h1]; exact hF j h0
  have e1 : g (1 + n) = x := by rw [hg, upd_ne _ _ (by omega), upd_ne _ _ (by omega), upd_ne _ _ (by omega), upd_at]
  have e2 : g (109 + n) = y := by rw [hg, upd_ne _ _ (by omega), upd_ne _ _ (by omega), upd_at]
  have e3 : g (13 + n) = v := by rw [hg, upd_ne _ _ (by omega), upd_at]
  have e0 : g 0 = w := by rw [hg, upd_at]
  exact (gp_node h hn (by rw [e0]; exact hw) (fun k q e => o _ (by omega) (by omega) (by omega) (by omega) (by omega)) (by rw [e1]; exact hx) (fun k q => o _ (by omega) (by omega) (by omega) (by omega) (by omega)) (fun k q => o _ (by omega) (by omega) (by omega) (by omega) (by omega)) (fun k q => o _ (by omega) (by omega) (by omega) (by omega) (by omega)) (fun k q => by
    by_cases e : k = n
    · subst e; rw [e3]; exact hv
    · rw [o _ (by omega) (by omega) (by omega) (by omega) (by omega)]; exact (h.1.2.1 k q).2.1) (fun k q e => o _ (by omega) (by omega) (by omega) (by omega) (by omega)) (by rw [e2]; exact hy) (by rw [e1]; exact c0) (by rw [e1]; exact c1) (by rw [e1]; exact c3)).2
/-- a name's letters and the rest: a row goes on as it stood -/
theorem upd_fill {F G : Nat → Int32} {v x : Int32} {i a : Nat} (h : ∀ j : Nat, j < i → F j = v) (hG : G = upd F a x) (ha : a = i) (hx : x = v) : ∀ j : Nat, j < i + 1 → G j = v := fun j hj => by
  subst ha hx
  rw [hG]
  by_cases e : j = a
  · subst e; rw [upd_at]
  · rw [upd_ne _ _ e]; exact h j (by omega)
theorem va_cpy_step {f h F : Nat → Int32} {sp dp n : Nat} (hF : F = va_cpy f h sp dp n) {a : Nat} {v : Int32} (ha : a = dp + n) (hv : v = f (sp + n)) : upd F a v = va_cpy f h sp dp (n + 1) := by
  subst hF ha hv
  funext j
  unfold va_cpy
  by_cases e : j = dp + n
  · subst e
    rw [upd_at, if_pos (by omega), show sp + (dp + n - dp) = sp + n by omega]
  · rw [upd_ne _ _ e]
    by_cases q : dp ≤ j ∧ j < dp + n
    · rw [if_pos q, if_pos (by omega)]
    · rw [if_neg q, if_neg (by omega)]
theorem va_cpy_zero (f h : Nat → Int32) (sp dp : Nat) : h = va_cpy f h sp dp 0 := by
  funext j
  unfold va_cpy
  rw [if_neg (by omega)]
theorem gs_cong {f g : Nat → Int32} (h : GS f) (e : ∀ j : Nat, j < 193 → g j = f j) : GS g := by
  refine ⟨gp_cong h.1 (e _ (by omega)) (fun k q => e _ (by omega)) (fun k q => e _ (by omega)) (fun k q => e _ (by omega)) (fun k q => e _ (by omega)) (fun k q => by rw [e _ (by omega)]; exact (h.r.2.1 k q).2.1) (fun k q => by rw [e _ (by omega)]; exact ⟨(h.r.2.1 k q).2.2.2, h.1.2.2.2.2.2.1 k q⟩), fun k q => ?_⟩
  rw [e _ (by omega), e _ (by omega)]
  exact h.2 k q
/-- the slot of a row of rows -/
def sl (f : Nat → Int32) (a : Nat) : Nat → Int32 := fun i => f (a + i)
theorem gs_cpy_in {f h g : Nat → Int32} {sp dp : Nat} (hf : GS (sl f sp)) (hg : g = va_cpy f h sp dp 193) : GS (sl g dp) := gs_cong hf (fun j q => by
  subst hg
  show va_cpy f h sp dp 193 (dp + j) = f (sp + j)
  unfold va_cpy
  rw [if_pos (by omega), show dp + j - dp = j by omega])
theorem gs_cpy_out {f h g : Nat → Int32} {sp dp a : Nat} (hf : GS (sl h a)) (hg : g = va_cpy f h sp dp 193) (hd : a + 193 ≤ dp ∨ dp + 193 ≤ a) : GS (sl g a) := gs_cong hf (fun j q => by
  subst hg
  show va_cpy f h sp dp 193 (a + j) = h (a + j)
  unfold va_cpy
  rw [if_neg (by omega)])
theorem sl_zero (f : Nat → Int32) : sl f 0 = f := funext (fun i => by show f (0 + i) = f i; rw [Nat.zero_add])
/-- a fact that stands by till it is called for -/
def Hide (p : Prop) : Prop := p
theorem Hide.get {p : Prop} (h : Hide p) : p := h
/-- a token while it is read: so many bytes, the number, how many of them letters -/
def NX (n num sm : Int) : Prop := 0 ≤ sm ∧ sm ≤ n ∧ 0 ≤ num ∧ num ≤ 814 ∧ (n = 0 → num = 0) ∧ (n = 1 → num ≤ 74) ∧ (sm = 0 → num ≤ 99 ∧ (n = 1 → num ≤ 9))
theorem NX_zero {n num sm : Int} (h1 : n = 0) (h2 : num = 0) (h3 : sm = 0) : NX n num sm := by subst h1 h2 h3; unfold NX; omega
theorem NX_rng {n num sm : Int} (h : NX n num sm) : 0 ≤ num ∧ num ≤ 814 := ⟨h.2.2.1, h.2.2.2.1⟩
theorem NX_sm {n num sm : Int} (h : NX n num sm) : 0 ≤ sm ∧ sm ≤ n := ⟨h.1, h.2.1⟩
theorem NX_end {n num sm : Int} (h : NX n num sm) (e : sm = 0) : num ≤ 99 := (h.2.2.2.2.2.2 e).1
theorem NX_go {n num sm n' num' sm' c : Int} (h : NX n num sm) (hn : n' = n + 1) (hc : (97 ≤ c ∧ c ≤ 122 ∧ sm' = sm + 1) ∨ (48 ≤ c ∧ c ≤ 57 ∧ sm' = sm)) (hu : (n < 2 ∧ num' = 10 * num + c - 48) ∨ (2 ≤ n ∧ num' = num)) : NX n' num' sm' := by
  unfold NX at *
  rcases hc with hc | hc <;> rcases hu with hu | hu <;> omega
theorem pkb_cg {f : Nat → Int32} {p q z : Int32} (h : p.toInt = q.toInt) : pkb f p z = pkb f q z := by rw [Int32.toInt_inj.mp h]
/-! the class's network as a row of numbers -/
def absC (nd : Int32) (kd' py nm wy hd tg wt : Nat → Int32) : Nat → Int := fun j => if j = 0 then nd.toInt else if j < 13 then (kd' (j - 1)).toInt else if j < 25 then (py (j - 13)).toInt else if j < 37 then (wy (j - 25)).toInt else if j < 73 then (tg (j - 37)).toInt else if j < 109 then (wt (j - 73)).toInt else if j < 121 then (hd (j - 109)).toInt else (nm (j - 121)).toInt
theorem absC_0 {nd : Int32} {k y n w h t x : Nat → Int32} : absC nd k y n w h t x 0 = nd.toInt := rfl
theorem absC_k {nd : Int32} {k y n w h t x : Nat → Int32} {p : Nat} (hp : p < 12) : absC nd k y n w h t x (1 + p) = (k p).toInt := by
  unfold absC
  rw [if_neg (by omega), if_pos (by omega), show 1 + p - 1 = p by omega]
theorem absC_y {nd : Int32} {k y n w h t x : Nat → Int32} {p : Nat} (hp : p < 12) : absC nd k y n w h t x (13 + p) = (y p).toInt := by
  unfold absC
  rw [if_neg (by omega), if_neg (by omega), if_pos (by omega), show 13 + p - 13 = p by omega]
theorem absC_w {nd : Int32} {k y n w h t x : Nat → Int32} {p : Nat} (hp : p < 12) : absC nd k y n w h t x (25 + p) = (w p).toInt := by
  unfold absC
  rw [if_neg (by omega), if_neg (by omega), if_neg (by omega), if_pos (by omega), show 25 + p - 25 = p by omega]
theorem absC_t {nd : Int32} {k y n w h t x : Nat → Int32} {p i : Nat} (hp : p < 12) (hi : i < 3) : absC nd k y n w h t x (37 + 3 * p + i) = (t (3 * p + i)).toInt := by
  unfold absC
  rw [if_neg (by omega), if_neg (by omega), if_neg (by omega), if_neg (by omega), if_pos (by omega), show 37 + 3 * p + i - 37 = 3 * p + i by omega]
theorem absC_x {nd : Int32} {k y n w h t x : Nat → Int32} {p i : Nat} (hp : p < 12) (hi : i < 3) : absC nd k y n w h t x (73 + 3 * p + i) = (x (3 * p + i)).toInt := by
  unfold absC
  rw [if_neg (by omega), if_neg (by omega), if_neg (by omega), if_neg (by omega), if_neg (by omega), if_pos (by omega), show 73 + 3 * p + i - 73 = 3 * p + i by omega]
theorem absC_h {nd : Int32} {k y n w h t x : Nat → Int32} {p : Nat} (hp : p < 12) : absC nd k y n w h t x (109 + p) = (h p).toInt := by
  unfold absC
  rw [if_neg (by omega), if_neg (by omega), if_neg (by omega), if_neg (by omega), if_neg (by omega), if_neg (by omega), if_pos (by omega), show 109 + p - 109 = p by omega]
theorem absC_n {nd : Int32} {k y n w h t x : Nat → Int32} (p : Nat) : absC nd k y n w h t x (121 + p) = (n p).toInt := by
  unfold absC
  rw [if_neg (by omega), if_neg (by omega), if_neg (by omega), if_neg (by omega), if_neg (by omega), if_neg (by omega), if_neg (by omega), show 121 + p - 121 = p by omega]
/-- a node that is found in the row of names -/
theorem absC_fd {nd : Int32} {k y n w h t x : Nat → Int32} {v r : Int} (q : FN nd.toInt (fun p => (n p).toInt) v r) : FDn (absC nd k y n w h t x) v r := by
  have e : (fun p => absC nd k y n w h t x (121 + p)) = fun p => (n p).toInt := funext (fun p => absC_n p)
  unfold FDn
  rw [e]; exact q
theorem absC_cn {nd : Int32} {k y n w h t x : Nat → Int32} {z : Int} {m : Nat} (hm : m ≤ 12) : cn (absC nd k y n w h t x) z m = cnf (fun p => (k p).toInt) z m := cnf_congr (fun p hp => absC_k (by omega))
theorem absC_ws {nd : Int32} {k y n w h t x : Nat → Int32} {p m : Nat} (hp : p < 12) (hm : m ≤ 3) : wsum (absC nd k y n w h t x) p m = wsf (fun i => (x (3 * p + i)).toInt) m := wsf_congr (fun i hi => absC_x hp (by omega))
theorem absC_addN {nd nd' c v z a0 am : Int32} {c9 y9 : Int} {k y n w h t x k' y' n' w' h' : Nat → Int32} (h0 : 0 ≤ nd.toInt) (h1 : nd.toInt < 12) (e0 : nd'.toInt = nd.toInt + 1) (ek : k' = upd k nd.toNatClampNeg c) (ey : y' = upd y nd.toNatClampNeg z) (en : n' = upd n nd.toNatClampNeg v) (ew : w' = upd w nd.toNatClampNeg a0) (eh : h' = upd h nd.toNatClampNeg am) (ha : a0.toInt = 0) (hm : am.toInt = -1) (hw : ∀ p : Nat, 0 ≤ (w p).toInt ∧ (w p).toInt ≤ 3) (hc : c.toInt = c9) (hz : z.toInt = y9) : AddN (absC nd k y n w h t x) (absC nd' k' y' n' w' h' t x) c9 v.toInt y9 := by
  have hN : nd.toNatClampNeg = nd.toInt.toNat := rfl
  have hb : nd.toInt.toNat < 12 := by omega
  rw [hN] at ek ey en ew eh
  refine ⟨e0, fun p hp => ?_, ?_, ?_, ?_, ?_, ?_⟩
  · have hp' : (p : Int) < nd.toInt := hp
    have hp2 : p < 12 := by omega
    have ne : p ≠ nd.toInt.toNat := by omega
    refine ⟨?_, ?_, ?_, ?_, ?_, fun i hi => ?_⟩
    · rw [absC_k hp2, absC_k hp2, ek, upd_ne _ _ ne]
    · rw [absC_y hp2, absC_y hp2, ey, upd_ne _ _ ne]
    · rw [absC_w hp2, absC_w hp2, ew, upd_ne _ _ ne]
    · rw [absC_h hp2, absC_h hp2, eh, upd_ne _ _ ne]
    · rw [absC_n, absC_n, en, upd_ne _ _ ne]
    · rw [absC_w hp2] at hi
      have hi2 : i < 3 := by have := (hw p).2; omega
      exact ⟨by rw [absC_t hp2 hi2, absC_t hp2 hi2], by rw [absC_x hp2 hi2, absC_x hp2 hi2]⟩
  · rw [absC_0, absC_k hb, ek, upd_at, hc]
  · rw [absC_0, absC_y hb, ey, upd_at, hz]
  · rw [absC_0, absC_w hb, ew, upd_at, ha]
  · rw [absC_0, absC_h hb, eh, upd_at, hm]
  · rw [absC_0, absC_n, en, upd_at]
theorem absC_addW {nd r q v wv : Int32} {v9 : Int} {i1 : Nat} {k y n w h t x t' x' w' : Nat → Int32} (h1 : nd.toInt ≤ 12) (r0 : 0 ≤ r.toInt) (r1 : r.toInt < nd.toInt) (w0 : 0 ≤ (w r.toInt.toNat).toInt) (w1 : (w r.toInt.toNat).toInt < 3) (hi1 : i1 = 3 * r.toInt.toNat + (w r.toInt.toNat).toInt.toNat) (et : t' = upd t i1 q) (ex : x' = upd x i1 v) (ew : w' = upd w r.toInt.toNat wv) (hv : wv.toInt = (w r.toInt.toNat).toInt + 1) (hw : ∀ p : Nat, 0 ≤ (w p).toInt ∧ (w p).toInt ≤ 3) (hv9 : v.toInt = v9) : AddW (absC nd k y n w h t x) (absC nd k y n w' h t' x') r.toInt q.toInt v9 := by
  have hb : r.toInt.toNat < 12 := by omega
  refine ⟨by rw [absC_0, absC_0], r0, by rw [absC_0]; exact r1, ?_, fun p hp hne => ?_, ?_, ?_, ?_, ?_, ?_, fun i hi => ?_, ?_, ?_⟩
  · rw [absC_w hb]; exact w0
  · have hp' : (p : Int) < nd.toInt := hp
    have hp2 : p < 12 := by omega
    have ne : p ≠ r.toInt.toNat := by omega
    refine ⟨by rw [absC_k hp2, absC_k hp2], by rw [absC_y hp2, absC_y hp2], by rw [absC_w hp2, absC_w hp2, ew, upd_ne _ _ ne], by rw [absC_h hp2, absC_h hp2], by rw [absC_n, absC_n], fun i hi => ?_⟩
    rw [absC_w hp2] at hi
    have hi2 : i < 3 := by have := (hw p).2; omega
    have ni : 3 * p + i ≠ i1 := by omega
    exact ⟨by rw [absC_t hp2 hi2, absC_t hp2 hi2, et, upd_ne _ _ ni], by rw [absC_x hp2 hi2, absC_x hp2 hi2, ex, upd_ne _ _ ni]⟩
  · rw [absC_k hb, absC_k hb]
  · rw [absC_y hb, absC_y hb]
  · rw [absC_h hb, absC_h hb]
  · rw [absC_n, absC_n]
  · rw [absC_w hb, absC_w hb, ew, upd_at, hv]
  · rw [absC_w hb] at hi
    have hi2 : i < 3 := by omega
    have ni : 3 * r.toInt.toNat + i ≠ i1 := by omega
    exact ⟨by rw [absC_t hb hi2, absC_t hb hi2, et, upd_ne _ _ ni], by rw [absC_x hb hi2, absC_x hb hi2, ex, upd_ne _ _ ni]⟩
  · rw [absC_w hb, absC_t hb (by omega), et, ← hi1, upd_at]
  · rw [absC_w hb, absC_x hb (by omega), ex, ← hi1, upd_at, hv9]
def LKc (nd : Int) (k w : Nat → Int32) : Prop := ∃ p : Nat, (p : Int) < nd ∧ (k p).toInt ≠ 0 ∧ (w p).toInt = 0
/-- how many nodes there can be -/
def BDn (a : Nat → Int) : Prop := 0 ≤ a 0 ∧ cn a 0 (a 0).toNat ≤ 4 ∧ a 0 - cn a 0 (a 0).toNat ≤ 8 ∧ ∀ p : Nat, (p : Int) < a 0 → 0 ≤ a (25 + p) ∧ a (25 + p) ≤ 3
theorem cn_succ (a : Nat → Int) (k : Int) (n : Nat) : cn a k (n + 1) = cn a k n + if a (1 + n) = k then 1 else 0 := rfl
theorem BDn.addN {a a' : Nat → Int} {k v y : Int} (h : BDn a) (nf : ¬ FULL a k) (q : AddN a a' k v y) : BDn a' := by
  obtain ⟨q0, q1, q2, q3, q4, q5, q6⟩ := q
  obtain ⟨b0, b1, b2, b3⟩ := h
  have e : (a' 0).toNat = (a 0).toNat + 1 := by omega
  have c : cn a' 0 (a 0).toNat = cn a 0 (a 0).toNat := cn_congr (fun p hp => (q1 p (by omega)).1.symm)
  have nf' : ¬ (k = 0 ∧ 4 ≤ cn a 0 (a 0).toNat) ∧ ¬ (k ≠ 0 ∧ 8 ≤ a 0 - cn a 0 (a 0).toNat) := ⟨fun z => nf (Or.inl z), fun z => nf (Or.inr ⟨z.1, Or.inl z.2⟩)⟩
  refine ⟨by omega, ?_, ?_, fun p hp => ?_⟩
  · rw [e, cn_succ, c, q2]
    by_cases z : k = 0
    · rw [if_pos z]; omega
    · rw [if_neg z]; omega
  · rw [e, cn_succ, c, q2]
    by_cases z : k = 0
    · rw [if_pos z]; omega
    · rw [if_neg z]; omega
  · by_cases z : (p : Int) < a 0
    · have s := (q1 p z).2.2.1
      rw [← s]; exact b3 p z
    · have : p = (a 0).toNat := by omega
      subst this
      rw [q4]; omega
theorem BDn.addW {a a' : Nat → Int} {r q w : Int} (h : BDn a) (hr : a (25 + r.toNat) < 3) (x : AddW a a' r q w) : BDn a' := by
  obtain ⟨x0, x1, x2, x3, x4, x5, x6, x7, x8, x9, x10, x11, x12⟩ := x
  obtain ⟨b0, b1, b2, b3⟩ := h
  have c : cn a' 0 (a 0).toNat = cn a 0 (a 0).toNat := cn_congr (fun p hp => by
    by_cases z : (p : Int) = r
    · have : p = r.toNat := by omega
      subst this; exact x5
    · exact (x4 p (by omega) z).1.symm)
  refine ⟨by omega, by rw [x0, c]; exact b1, by rw [x0, c]; exact b2, fun p hp => ?_⟩
  by_cases z : (p : Int) = r
  · have : p = r.toNat := by omega
    subst this
    rw [x9]; omega
  · have s := (x4 p (by omega) z).2.2.1
    rw [← s]; exact b3 p (by omega)
theorem BDn.line {g : Nat → Int} {t : Int} {j e : Nat} {v : Int} {a : Nat → Int} {t' : Int} {j' e' : Nat} {v' : Int} {a' : Nat → Int} (h : BDn a) (q : LOk g t j e v a t' j' e' v' a') : BDn a' := by
  obtain ⟨-, t1, j1, e1, v1, c, -, -⟩ := q
  rcases c with ⟨-, -, nf, u1, i1, f1, w1, -, -, -, u2, i2, f2, w2, -, c⟩ | ⟨-, u1, i1, f1, w1, r1, -, -, -, -, -, hw3, u2, i2, f2, w2, r2, -, -, -, -, u3, i3, f3, w3, -, c⟩
  · rcases c with ⟨-, c, -⟩ | ⟨k0, -, -, -, c⟩
    · exact h.addN nf c
    · rw [k0] at nf; exact h.addN nf c
  · rcases c with ⟨-, -, -, -, -, -, c⟩ | ⟨-, -, -, -, c⟩ | ⟨-, -, c⟩
    · exact h.addW hw3 c
    · exact h.addW hw3 c
    · exact h.addW hw3 c
theorem RCH.bd {g : Nat → Int} : ∀ {k : Nat} {t : Int} {j e : Nat} {v : Int} {a : Nat → Int}, RCH g k t j e v a → BDn a
  | 0, _, _, _, _, a, x => by
    have h0 := x.2
    refine ⟨by omega, ?_, ?_, fun p hp => by omega⟩
    · rw [h0]; show (0 : Int) ≤ 4; decide
    · rw [h0]; show (0 : Int) - 0 ≤ 8; decide
  | _ + 1, _, _, _, _, _, x => by
    obtain ⟨_, _, _, _, _, x1, -, x3⟩ := x
    exact (RCH.bd x1).line x3
/-- the five words' numbers in the class -/
def KWs (f : Nat → Int32) : Prop := (f 0).toInt = 4027 ∧ (f 1).toInt = 9528 ∧ (f 2).toInt = 9734 ∧ (f 3).toInt = 47328224
def kd3 (v : Int) : Int := if v = 4027 then 0 else if v = 9528 then 1 else if v = 9734 then 2 else if v = 47328224 then 3 else -1
theorem kd3_rng (v : Int) : -1 ≤ kd3 v ∧ kd3 v ≤ 3 := by
  unfold kd3; repeat' split
  all_goals omega
theorem kd_kd3 (v : Int) (h : kd3 v ≠ -1) : kd v = kd3 v := by
  unfold kd3 at h ⊢; unfold kd
  repeat' split
  all_goals first | rfl | omega | (exfalso; simp_all)
theorem kd_way {v : Int} (h : v = 16819) : kd v = 4 := by subst h; decide
theorem kd_none {v : Int} (h : kd3 v = -1) (h2 : v ≠ 16819) : kd v = -1 := by
  unfold kd3 at h; unfold kd
  repeat' split
  all_goals first | rfl | omega | (exfalso; simp_all)
theorem nmc_no3 {t v : Int} (h : kd3 v ≠ -1) : ¬ NMC t v := fun q => by
  have e := kd_kd3 v h
  have := kd3_rng v
  have := q.2
  omega
theorem nmc_noW {t v : Int} (h : v = 16819) : ¬ NMC t v := fun q => by
  have e := kd_way h
  have := q.2
  omega
theorem BDn.lt {a : Nat → Int} {k : Int} (h : BDn a) (nf : ¬ FULL a k) : a 0 ≤ 11 := by
  obtain ⟨b0, b1, b2, b3⟩ := h
  have nf' : ¬ (k = 0 ∧ 4 ≤ cn a 0 (a 0).toNat) ∧ ¬ (k ≠ 0 ∧ 8 ≤ a 0 - cn a 0 (a 0).toNat) := ⟨fun z => nf (Or.inl z), fun z => nf (Or.inr ⟨z.1, Or.inl z.2⟩)⟩
  by_cases z : k = 0
  · omega
  · omega
def FLk (nd : Int) (k : Nat → Int32) (c : Int) : Prop := (c = 0 ∧ 4 ≤ cnf (fun p => (k p).toInt) 0 nd.toNat) ∨ (c ≠ 0 ∧ (8 ≤ nd - cnf (fun p => (k p).toInt) 0 nd.toNat ∨ (c = 3 ∧ 5 ≤ cnf (fun p => (k p).toInt) 3 nd.toNat)))
theorem absC_full {nd : Int32} {k y n w h t x : Nat → Int32} {c : Int} (h1 : nd.toInt ≤ 12) : FLk nd.toInt k c ↔ FULL (absC nd k y n w h t x) c := by
  have e : ∀ z : Int, cn (absC nd k y n w h t x) z nd.toInt.toNat = cnf (fun p => (k p).toInt) z nd.toInt.toNat := fun z => absC_cn (by omega)
  unfold FLk FULL
  rw [absC_0, e 0, e 3]
theorem absC_lack {nd : Int32} {k y n w h t x : Nat → Int32} (h1 : nd.toInt ≤ 12) : LKc nd.toInt k w ↔ LACK (absC nd k y n w h t x) := by
  constructor
  · rintro ⟨p, a, b, c⟩
    exact ⟨p, a, by rw [absC_k (by omega)]; exact b, by rw [absC_w (by omega)]; exact c⟩
  · rintro ⟨p, a, b, c⟩
    have a' : (p : Int) < nd.toInt := a
    exact ⟨p, a, by rw [absC_k (by omega)] at b; exact b, by rw [absC_w (by omega)] at c; exact c⟩
theorem absC_hwr {nd r : Int32} {k y n w h t x : Nat → Int32} (hb : BW (absC nd k y n w h t x)) (h1 : nd.toInt ≤ 12) (r0 : 0 ≤ r.toInt) (r1 : r.toInt < nd.toInt) (hw : ∀ p : Nat, 0 ≤ (w p).toInt ∧ (w p).toInt ≤ 3) : ∀ i : Nat, (i : Int) < (w r.toInt.toNat).toInt → 0 ≤ (x (3 * r.toInt.toNat + i)).toInt ∧ (x (3 * r.toInt.toNat + i)).toInt ≤ 3 := fun i hi => by
  have q := hb r.toInt.toNat (by rw [absC_0]; omega) i (by rw [absC_w (by omega)]; exact hi)
  have hi3 : i < 3 := by have := (hw r.toInt.toNat).2; omega
  rw [absC_x (by omega) hi3] at q; exact q
/-! the reference's reader: its tokens, words, names, row -/
theorem and255_mod (x : Int32) : (x &&& 255).toInt = x.toInt % 256 := by
  have h1 : (x &&& 255).toBitVec = x.toBitVec &&& 255#32 := rfl
  have h2 : (x &&& 255).toInt = ((x &&& 255).toBitVec).toInt := rfl
  have h0 : x.toInt = x.toBitVec.toInt := rfl
  have h3 : (x.toBitVec &&& 255#32).toNat = x.toBitVec.toNat % 256 := by
    rw [BitVec.toNat_and]
    exact Nat.and_two_pow_sub_one_eq_mod x.toBitVec.toNat 8
  rw [h2, h1, h0, BitVec.toInt_eq_toNat_cond, BitVec.toInt_eq_toNat_cond, h3]
  have h4 := x.toBitVec.isLt
  split <;> split <;> omega
theorem pkb_bg {f : Nat → Int32} {p z : Int32} (h0 : 0 ≤ p.toInt) : pkb f p z = bg f z.toInt p.toInt.toNat := by
  by_cases h : p.toInt < z.toInt
  · rw [← pkb_in h, bg_in (by omega), and255_mod]; rfl
  · rw [← pkb_out h, bg_out (by omega)]
theorem i2b_small {x : Int32} (h0 : 0 ≤ x.toInt) (h1 : x.toInt ≤ 127) : x.toInt8.toInt32 = x := by
  apply Int32.toInt_inj.mp
  rw [Int8.toInt_toInt32, Int32.toInt_toInt8]
  exact Int.bmod_eq_of_le (by omega) (by omega)
/-- a run in the reference: how many small letters, the number, the letters -/
def RNR (g : Nat → Int) (j x : Nat) (S N : Int) (lf : Nat → Int32) : Prop := j ≤ x ∧ (∀ k : Nat, j ≤ k → k < x → ltr (g k) ∨ dgt (g k)) ∧ 0 ≤ S ∧ S ≤ (x : Int) - j ∧ (S = (x : Int) - j → ALt g j x) ∧ (S ≠ (x : Int) - j → ¬ ALt g j x) ∧ (S = 0 → ADg g j x) ∧ (S ≠ 0 → ¬ ADg g j x) ∧ (S = 0 → x - j ≤ 2 → N = nmb g j (x - j)) ∧ ∀ k : Nat, k < 6 → j + k < x → (lf k).toInt = g (j + k)
theorem RNR.zero {g : Nat → Int} {j x : Nat} {S N : Int} {lf : Nat → Int32} (hx : x = j) (hS : S = 0) (hN : N = 0) : RNR g j x S N lf := by
  subst hx; subst hS; subst hN
  refine ⟨Nat.le_refl _, fun k h1 h2 => by omega, by omega, by omega, fun _ k h1 h2 => by omega, fun h => absurd (by omega) h, fun _ k h1 h2 => by omega, fun h => absurd rfl h, fun _ _ => ?_, fun k h1 h2 => by omega⟩
  rw [Nat.sub_self]; rfl
theorem RNR.letter {g : Nat → Int} {j x y : Nat} {S S' N N' : Int} {lf lf' : Nat → Int32} (h : RNR g j x S N lf) (hy : y = x + 1) (hc : ltr (g x)) (hS : S' = S + 1) (hl : ∀ k : Nat, k < 6 → j + k ≤ x → (lf' k).toInt = if j + k = x then g x else (lf k).toInt) : RNR g j y S' N' lf' := by
  obtain ⟨h1, h2, h3, h4, h5, h6, h7, h8, h9, h10⟩ := h
  subst hy; subst hS
  refine ⟨by omega, fun k k1 k2 => ?_, by omega, by omega, fun q k k1 k2 => ?_, fun q r => h6 (by omega) (fun k k1 k2 => r k k1 (by omega)), fun q => by omega, fun _ r => ?_, fun q => by omega, fun k k1 k2 => ?_⟩
  · rcases Nat.lt_or_ge k x with z | z
    · exact h2 k k1 z
    · have : k = x := by omega
      subst this; exact Or.inl hc
  · rcases Nat.lt_or_ge k x with z | z
    · exact h5 (by omega) k k1 z
    · have : k = x := by omega
      subst this; exact hc
  · have b := r x h1 (by omega)
    unfold ltr at hc; unfold dgt at b; omega
  · rw [hl k k1 (by omega)]
    by_cases e : j + k = x
    · rw [if_pos e, e]
    · rw [if_neg e]; exact h10 k k1 (by omega)
theorem RNR.digit {g : Nat → Int} {j x y : Nat} {S S' N N' : Int} {lf lf' : Nat → Int32} (h : RNR g j x S N lf) (hy : y = x + 1) (hc : dgt (g x)) (hS : S' = S) (hN : S = 0 → x - j ≤ 1 → N' = N * 10 + (g x - 48)) (hl : ∀ k : Nat, k < 6 → j + k ≤ x → (lf' k).toInt = if j + k = x then g x else (lf k).toInt) : RNR g j y S' N' lf' := by
  obtain ⟨h1, h2, h3, h4, h5, h6, h7, h8, h9, h10⟩ := h
  subst hy; subst hS
  refine ⟨by omega, fun k k1 k2 => ?_, by omega, by omega, fun q => by omega, fun _ r => ?_, fun q k k1 k2 => ?_, fun q r => h8 q (fun k k1 k2 => r k k1 (by omega)), fun q w => ?_, fun k k1 k2 => ?_⟩
  · rcases Nat.lt_or_ge k x with z | z
    · exact h2 k k1 z
    · have : k = x := by omega
      subst this; exact Or.inr hc
  · have b := r x h1 (by omega)
    unfold ltr at b; unfold dgt at hc; omega
  · rcases Nat.lt_or_ge k x with z | z
    · exact h7 q k k1 z
    · have : k = x := by omega
      subst this; exact hc
  · have e := h9 q (by omega)
    have n : x + 1 - j = (x - j) + 1 := by omega
    have n2 : j + (x - j) = x := by omega
    rw [n, nmb_succ, n2, ← e]
    exact hN q (by omega)
  · rw [hl k k1 (by omega)]
    by_cases e : j + k = x
    · rw [if_pos e, e]
    · rw [if_neg e]; exact h10 k k1 (by omega)
/-- the letters of the token, six of them, 0 behind the last -/
def pad (lf : Nat → Int32) (m : Int) (k : Nat) : Int := if (k : Int) < m then (lf k).toInt else 0
/-- a word that is read: its letters -/
def WLF (lf : Nat → Int32) (m : Int) : Prop := 1 ≤ m ∧ m ≤ 6 ∧ ∀ k : Nat, (k : Int) < m → ltr (lf k).toInt
def wcd (lf : Nat → Int32) (m : Int) : Int := pk (fun k => (lf k).toInt) 0 m.toNat
/-- the reference's token -/
def TKR (g : Nat → Int) (i : Nat) (t : Int) (j e : Nat) (num lm : Int) (lf : Nat → Int32) : Prop := ∃ v : Int, TK g i t j e v ∧ (t = 1 → WLF lf lm ∧ v = wcd lf lm) ∧ (t = 2 → v = num)
theorem tkr_of {g : Nat → Int} {i : Nat} {t : Int} {j e : Nat} {num lm : Int} {lf : Nat → Int32} {v : Int} (h : TK g i t j e v) (h1 : t ≠ 1) (h2 : t ≠ 2) : TKR g i t j e num lm lf := ⟨v, h, fun q => absurd q h1, fun q => absurd q h2⟩
theorem RNR.rng {g : Nat → Int} {j x : Nat} {S N : Int} {lf : Nat → Int32} (h : RNR g j x S N lf) : j ≤ x ∧ 0 ≤ S ∧ S ≤ (x : Int) - j := ⟨h.1, h.2.2.1, h.2.2.2.1⟩
theorem RNR.word {g : Nat → Int} {i j x : Nat} {S N num lm t : Int} {lf : Nat → Int32} (h : RNR g j x S N lf) (s : SKp g i j) (ha : ltr (g j) ∨ dgt (g j)) (hs : ¬ (ltr (g x) ∨ dgt (g x))) (hS : S = (x : Int) - j) (hl : S < 7) (hm : lm = (x : Int) - j) (hx : j < x) (ht : t = 1) : TKR g i t j x num lm lf := by
  obtain ⟨h1, h2, h3, h4, h5, h6, h7, h8, h9, h10⟩ := h
  have al := h5 hS
  refine ⟨pk g j (x - j), tk_run s ha ⟨⟨h1, h2, hs⟩, Or.inl ⟨al, by omega, ht, rfl⟩⟩, fun _ => ⟨⟨by omega, by omega, fun k hk => ?_⟩, ?_⟩, fun q => by omega⟩
  · rw [h10 k (by omega) (by omega)]; exact al (j + k) (by omega) (by omega)
  · unfold wcd
    have e : lm.toNat = x - j := by omega
    rw [e]
    exact pk_congr (fun k hk => by rw [Nat.zero_add]; exact (h10 k (by omega) (by omega)).symm)
theorem RNR.number {g : Nat → Int} {i j x : Nat} {S N lm t : Int} {lf : Nat → Int32} (h : RNR g j x S N lf) (s : SKp g i j) (ha : ltr (g j) ∨ dgt (g j)) (hs : ¬ (ltr (g x) ∨ dgt (g x))) (hS : S = 0) (hl : (x : Int) - j < 3) (ht : t = 2) : TKR g i t j x N lm lf := by
  obtain ⟨h1, h2, h3, h4, h5, h6, h7, h8, h9, h10⟩ := h
  exact ⟨nmb g j (x - j), tk_run s ha ⟨⟨h1, h2, hs⟩, Or.inr (Or.inl ⟨h7 hS, by omega, ht, rfl⟩)⟩, fun q => by omega, fun _ => (h9 hS (by omega)).symm⟩
theorem RNR.wrong {g : Nat → Int} {i j x : Nat} {S N num lm t : Int} {lf : Nat → Int32} (h : RNR g j x S N lf) (s : SKp g i j) (ha : ltr (g j) ∨ dgt (g j)) (hs : ¬ (ltr (g x) ∨ dgt (g x))) (n1 : ¬ (S = (x : Int) - j ∧ (x : Int) - j < 7)) (n2 : ¬ (S = 0 ∧ (x : Int) - j < 3)) (ht : t = 4) : TKR g i t j x num lm lf := by
  obtain ⟨h1, h2, h3, h4, h5, h6, h7, h8, h9, h10⟩ := h
  refine tkr_of (v := 0) (tk_run s ha ⟨⟨h1, h2, hs⟩, Or.inr (Or.inr ⟨fun q => ?_, fun q => ?_, ht⟩)⟩) (by omega) (by omega)
  · by_cases d : S = (x : Int) - j
    · exact n1 ⟨d, by omega⟩
    · exact h6 d q.1
  · by_cases d : S = 0
    · exact n2 ⟨d, by omega⟩
    · exact h8 d q.1
/-- six letters that are the same as six others -/
def Mt6 (h q : Nat → Int) : Prop := ∀ i : Nat, i < 6 → h i = q i
/-- six letters: some, then 0 -/
def WF6 (h : Nat → Int) : Prop := ∃ m : Nat, m ≤ 6 ∧ (∀ i : Nat, i < m → ltr (h i)) ∧ ∀ i : Nat, m ≤ i → i < 6 → h i = 0
/-- their number -/
def cd6 (h : Nat → Int) : Int := pk h 0 (if h 0 = 0 then 0 else if h 1 = 0 then 1 else if h 2 = 0 then 2 else if h 3 = 0 then 3 else if h 4 = 0 then 4 else if h 5 = 0 then 5 else 6)
theorem cd6_of {h : Nat → Int} {m : Nat} (hm : m ≤ 6) (hl : ∀ i : Nat, i < m → ltr (h i)) (hz : ∀ i : Nat, m ≤ i → i < 6 → h i = 0) : cd6 h = pk h 0 m := by
  have nz : ∀ i : Nat, i < m → h i ≠ 0 := fun i hi q => by have := hl i hi; unfold ltr at this; omega
  unfold cd6
  rcases (show m = 0 ∨ m = 1 ∨ m = 2 ∨ m = 3 ∨ m = 4 ∨ m = 5 ∨ m = 6 by omega) with q | q | q | q | q | q | q <;> subst q
  · rw [if_pos (hz 0 (by omega) (by omega))]
  · rw [if_neg (nz 0 (by omega)), if_pos (hz 1 (by omega) (by omega))]
  · rw [if_neg (nz 0 (by omega)), if_neg (nz 1 (by omega)), if_pos (hz 2 (by omega) (by omega))]
  · rw [if_neg (nz 0 (by omega)), if_neg (nz 1 (by omega)), if_neg (nz 2 (by omega)), if_pos (hz 3 (by omega) (by omega))]
  · rw [if_neg (nz 0 (by omega)), if_neg (nz 1 (by omega)), if_neg (nz 2 (by omega)), if_neg (nz 3 (by omega)), if_pos (hz 4 (by omega) (by omega))]
  · rw [if_neg (nz 0 (by omega)), if_neg (nz 1 (by omega)), if_neg (nz 2 (by omega)), if_neg (nz 3 (by omega)), if_neg (nz 4 (by omega)), if_pos (hz 5 (by omega) (by omega))]
  · rw [if_neg (nz 0 (by omega)), if_neg (nz 1 (by omega)), if_neg (nz 2 (by omega)), if_neg (nz 3 (by omega)), if_neg (nz 4 (by omega)), if_neg (nz 5 (by omega))]
theorem m6_cd {h q : Nat → Int} (e : Mt6 h q) : cd6 h = cd6 q := by
  have k : ∀ m : Nat, m ≤ 6 → pk h 0 m = pk q 0 m := fun m hm => pk_congr (fun i hi => by rw [Nat.zero_add]; exact e i (by omega))
  unfold cd6
  rw [e 0 (by omega), e 1 (by omega), e 2 (by omega), e 3 (by omega), e 4 (by omega), e 5 (by omega)]
  apply k
  repeat' split
  all_goals omega
theorem cd_m6 {h q : Nat → Int} (wh : WF6 h) (wq : WF6 q) (e : cd6 h = cd6 q) : Mt6 h q := by
  obtain ⟨m, m1, m2, m3⟩ := wh
  obtain ⟨n, n1, n2, n3⟩ := wq
  rw [cd6_of m1 m2 m3, cd6_of n1 n2 n3] at e
  obtain ⟨rfl, k⟩ := pk_inj (fun i hi => by rw [Nat.zero_add]; exact m2 i hi) (fun i hi => by rw [Nat.zero_add]; exact n2 i hi) e
  intro i hi
  by_cases z : i < m
  · have := k i z
    rw [Nat.zero_add] at this; exact this
  · rw [m3 i (by omega) hi, n3 i (by omega) hi]
theorem pad_wf {lf : Nat → Int32} {m : Int} (h : WLF lf m) : WF6 (pad lf m) := by
  obtain ⟨h1, h2, h3⟩ := h
  refine ⟨m.toNat, by omega, fun i hi => ?_, fun i h4 h5 => if_neg (by omega)⟩
  unfold pad
  rw [if_pos (by omega)]; exact h3 i (by omega)
theorem pad_cd {lf : Nat → Int32} {m : Int} (h : WLF lf m) : cd6 (pad lf m) = wcd lf m := by
  obtain ⟨h1, h2, h3⟩ := h
  rw [cd6_of (h := pad lf m) (m := m.toNat) (by omega) (fun i hi => by unfold pad; rw [if_pos (by omega)]; exact h3 i (by omega)) (fun i h4 h5 => if_neg (by omega))]
  exact pk_congr (fun i hi => by rw [Nat.zero_add]; exact if_pos (by omega))
/-- the five known words -/
def KNs (kf : Nat → Int32) : Prop := ∀ j : Nat, j < 30 → kf j = (101 :: 110 :: 100 :: 0 :: 0 :: 0 :: 109 :: 97 :: 120 :: 0 :: 0 :: 0 :: 109 :: 105 :: 110 :: 0 :: 0 :: 0 :: 99 :: 104 :: 97 :: 110 :: 99 :: 101 :: 119 :: 97 :: 121 :: 0 :: 0 :: 0 :: [] : List Int32).getD j 0
def kw6 (kf : Nat → Int32) (k : Nat) : Nat → Int := fun i => (kf (6 * k + i)).toInt
def KCD (k : Nat) : Int := if k = 0 then 4027 else if k = 1 then 9528 else if k = 2 then 9734 else if k = 3 then 47328224 else 16819
theorem kw6_at {kf : Nat → Int32} (h : KNs kf) {k : Nat} (hk : k < 5) : WF6 (kw6 kf k) ∧ cd6 (kw6 kf k) = KCD k := by
  have e : ∀ j : Nat, j < 30 → (kf j).toInt = ((101 :: 110 :: 100 :: 0 :: 0 :: 0 :: 109 :: 97 :: 120 :: 0 :: 0 :: 0 :: 109 :: 105 :: 110 :: 0 :: 0 :: 0 :: 99 :: 104 :: 97 :: 110 :: 99 :: 101 :: 119 :: 97 :: 121 :: 0 :: 0 :: 0 :: [] : List Int32).getD j 0).toInt := fun j hj => by rw [h j hj]
  rcases (show k = 0 ∨ k = 1 ∨ k = 2 ∨ k = 3 ∨ k = 4 by omega) with q | q | q | q | q <;> subst q
  · have m : Mt6 (kw6 kf 0) (fun i => ([101, 110, 100, 0, 0, 0] : List Int).getD i 0) := fun i hi => by
      rcases (show i = 0 ∨ i = 1 ∨ i = 2 ∨ i = 3 ∨ i = 4 ∨ i = 5 by omega) with q | q | q | q | q | q <;> subst q <;> exact (e _ (by decide)).trans (by decide)
    refine ⟨⟨3, by decide, fun i hi => ?_, fun i h1 h2 => ?_⟩, (m6_cd m).trans (by decide)⟩
    · rw [m i (by omega)]
      rcases (show i = 0 ∨ i = 1 ∨ i = 2 by omega) with q | q | q <;> subst q <;> (unfold ltr; decide)
    · rw [m i h2]
      rcases (show i = 3 ∨ i = 4 ∨ i = 5 by omega) with q | q | q <;> subst q <;> rfl
  · have m : Mt6 (kw6 kf 1) (fun i => ([109, 97, 120, 0, 0, 0] : List Int).getD i 0) := fun i hi => by
      rcases (show i = 0 ∨ i = 1 ∨ i = 2 ∨ i = 3 ∨ i = 4 ∨ i = 5 by omega) with q | q | q | q | q | q <;> subst q <;> exact (e _ (by decide)).trans (by decide)
    refine ⟨⟨3, by decide, fun i hi => ?_, fun i h1 h2 => ?_⟩, (m6_cd m).trans (by decide)⟩
    · rw [m i (by omega)]
      rcases (show i = 0 ∨ i = 1 ∨ i = 2 by omega) with q | q | q <;> subst q <;> (unfold ltr; decide)
    · rw [m i h2]
      rcases (show i = 3 ∨ i = 4 ∨ i = 5 by omega) with q | q | q <;> subst q <;> rfl
  · have m : Mt6 (kw6 kf 2) (fun i => ([109, 105, 110, 0, 0, 0] : List Int).getD i 0) := fun i hi => by
      rcases (show i = 0 ∨ i = 1 ∨ i = 2 ∨ i = 3 ∨ i = 4 ∨ i = 5 by omega) with q | q | q | q | q | q <;> subst q <;> exact (e _ (by decide)).trans (by decide)
    refine ⟨⟨3, by decide, fun i hi => ?_, fun i h1 h2 => ?_⟩, (m6_cd m).trans (by decide)⟩
    · rw [m i (by omega)]
      rcases (show i = 0 ∨ i = 1 ∨ i = 2 by omega) with q | q | q <;> subst q <;> (unfold ltr; decide)
    · rw [m i h2]
      rcases (show i = 3 ∨ i = 4 ∨ i = 5 by omega) with q | q | q <;> subst q <;> rfl
  · have m : Mt6 (kw6 kf 3) (fun i => ([99, 104, 97, 110, 99, 101] : List Int).getD i 0) := fun i hi => by
      rcases (show i = 0 ∨ i = 1 ∨ i = 2 ∨ i = 3 ∨ i = 4 ∨ i = 5 by omega) with q | q | q | q | q | q <;> subst q <;> exact (e _ (by decide)).trans (by decide)
    refine ⟨⟨6, by decide, fun i hi => ?_, fun i h1 h2 => by omega⟩, (m6_cd m).trans (by decide)⟩
    rw [m i (by omega)]
    rcases (show i = 0 ∨ i = 1 ∨ i = 2 ∨ i = 3 ∨ i = 4 ∨ i = 5 by omega) with q | q | q | q | q | q <;> subst q <;> (unfold ltr; decide)
  · have m : Mt6 (kw6 kf 4) (fun i => ([119, 97, 121, 0, 0, 0] : List Int).getD i 0) := fun i hi => by
      rcases (show i = 0 ∨ i = 1 ∨ i = 2 ∨ i = 3 ∨ i = 4 ∨ i = 5 by omega) with q | q | q | q | q | q <;> subst q <;> exact (e _ (by decide)).trans (by decide)
    refine ⟨⟨3, by decide, fun i hi => ?_, fun i h1 h2 => ?_⟩, (m6_cd m).trans (by decide)⟩
    · rw [m i (by omega)]
      rcases (show i = 0 ∨ i = 1 ∨ i = 2 by omega) with q | q | q <;> subst q <;> (unfold ltr; decide)
    · rw [m i h2]
      rcases (show i = 3 ∨ i = 4 ∨ i = 5 by omega) with q | q | q <;> subst q <;> rfl
theorem kw_kd {kf : Nat → Int32} (hk : KNs kf) {lf : Nat → Int32} {m : Int} (hw : WLF lf m) {k : Nat} (h5 : k < 5) (h : Mt6 (kw6 kf k) (pad lf m)) : kd (wcd lf m) = k := by
  have e := (m6_cd h).symm.trans (kw6_at hk h5).2
  rw [pad_cd hw] at e
  rw [e]
  rcases (show k = 0 ∨ k = 1 ∨ k = 2 ∨ k = 3 ∨ k = 4 by omega) with q | q | q | q | q <;> subst q <;> decide
theorem kw_no {kf : Nat → Int32} (hk : KNs kf) {lf : Nat → Int32} {m : Int} (hw : WLF lf m) (h : ∀ k : Nat, k < 5 → ¬ Mt6 (kw6 kf k) (pad lf m)) : kd (wcd lf m) = -1 := by
  have n : ∀ k : Nat, k < 5 → wcd lf m ≠ KCD k := fun k h5 q => h k h5 (cd_m6 (kw6_at hk h5).1 (pad_wf hw) ((kw6_at hk h5).2.trans (q.symm.trans (pad_cd hw).symm)))
  have n0 : wcd lf m ≠ 4027 := n 0 (by decide)
  have n1 : wcd lf m ≠ 9528 := n 1 (by decide)
  have n2 : wcd lf m ≠ 9734 := n 2 (by decide)
  have n3 : wcd lf m ≠ 47328224 := n 3 (by decide)
  have n4 : wcd lf m ≠ 16819 := n 4 (by decide)
  unfold kd
  rw [if_neg n0, if_neg n1, if_neg n2, if_neg n3, if_neg n4]
/-- the reference's row as the row of numbers that both are held against -/
def nm6 (f : Nat → Int32) (p : Nat) : Nat → Int := fun i => (f (121 + 6 * p + i)).toInt
def absR (f : Nat → Int32) : Nat → Int := fun j => if j < 121 then (f j).toInt else cd6 (nm6 f (j - 121))
theorem absR_lo {f : Nat → Int32} {j : Nat} (h : j < 121) : absR f j = (f j).toInt := if_pos h
theorem absR_n {f : Nat → Int32} (p : Nat) : absR f (121 + p) = cd6 (nm6 f p) := by
  unfold absR
  rw [if_neg (by omega), show 121 + p - 121 = p by omega]
/-- names in a row are words -/
def NWF (f : Nat → Int32) : Prop := ∀ p : Nat, (p : Int) < (f 0).toInt → WF6 (nm6 f p)
theorem absR_cn {f : Nat → Int32} {z : Int} {m : Nat} (hm : m ≤ 12) : cn (absR f) z m = cnf (fun p => (f (1 + p)).toInt) z m := cnf_congr (fun p hp => absR_lo (by omega))
theorem absR_ws {f : Nat → Int32} {p m : Nat} (hp : p < 12) (hm : m ≤ 3) : wsum (absR f) p m = wsf (fun i => (f (73 + 3 * p + i)).toInt) m := wsf_congr (fun i hi => absR_lo (by omega))
theorem gc_cnf (f : Nat → Int32) (z : Int) : ∀ n : Nat, gc f z n = cnf (fun p => (f (1 + p)).toInt) z n
  | 0 => rfl
  | n + 1 => congrArg (fun t => t + (if (f (1 + n)).toInt = z then (1 : Int) else 0)) (gc_cnf f z n)
theorem gw_wsf (f : Nat → Int32) (p : Nat) : ∀ n : Nat, gw f p n = wsf (fun i => (f (73 + 3 * p + i)).toInt) n
  | 0 => rfl
  | n + 1 => congrArg (fun t => t + (f (73 + 3 * p + n)).toInt) (gw_wsf f p n)
theorem absR_fd {f : Nat → Int32} {lf : Nat → Int32} {m r : Int} (hn : NWF f) (hw : WLF lf m) (h : (0 ≤ r ∧ r < (f 0).toInt ∧ Mt6 (nm6 f r.toNat) (pad lf m) ∧ ∀ p : Nat, (p : Int) < r → ¬ Mt6 (nm6 f p) (pad lf m)) ∨ (r = -1 ∧ ∀ p : Nat, (p : Int) < (f 0).toInt → ¬ Mt6 (nm6 f p) (pad lf m))) : FDn (absR f) (wcd lf m) r := by
  have no : ∀ p : Nat, (p : Int) < (f 0).toInt → ¬ Mt6 (nm6 f p) (pad lf m) → absR f (121 + p) ≠ wcd lf m := fun p hp q e => q (cd_m6 (hn p hp) (pad_wf hw) ((absR_n p).symm.trans (e.trans (pad_cd hw).symm)))
  rcases h with ⟨a, b, c, d⟩ | ⟨a, b⟩
  · exact Or.inl ⟨a, b, (absR_n _).trans ((m6_cd c).trans (pad_cd hw)), fun p hp => no p (by omega) (d p hp)⟩
  · exact Or.inr ⟨a, fun p hp => no p hp (b p hp)⟩
theorem wf6_tr {h q : Nat → Int} (e : Mt6 h q) (w : WF6 q) : WF6 h := by
  obtain ⟨m, m1, m2, m3⟩ := w
  exact ⟨m, m1, fun i hi => by rw [e i (by omega)]; exact m2 i hi, fun i h1 h2 => by rw [e i h2]; exact m3 i h1 h2⟩
/-- behind the last node no pay is told -/
def PZr (f : Nat → Int32) : Prop := ∀ k : Nat, k < 12 → (f 0).toInt ≤ k → (f (13 + k)).toInt = 0
/-- a node more, in the row -/
theorem absR_add {f o lf : Nat → Int32} {lm c y : Int} {n : Nat} (hG : GP f) (hN : NWF f) (hz : PZr f) (hw : WLF lf lm) (hn : n = (f 0).toInt.toNat) (h11 : n ≤ 11) (e0 : (o 0).toInt = (f 0).toInt + 1) (ek : (o (1 + n)).toInt = c) (ey : (o (13 + n)).toInt = y) (eh : (o (109 + n)).toInt = -1) (en : ∀ j : Nat, j < 6 → (o (121 + 6 * n + j)).toInt = pad lf lm j) (same : ∀ j : Nat, j ≠ 0 → j ≠ 1 + n → j ≠ 13 + n → j ≠ 109 + n → (j < 121 + 6 * n ∨ 121 + 6 * n + 6 ≤ j) → o j = f j) : AddN (absR f) (absR o) c (wcd lf lm) y ∧ NWF o ∧ PZr o := by
  have g0 := hG.1.1
  have f0 : absR f 0 = (f 0).toInt := absR_lo (by decide)
  have o0 : absR o 0 = (o 0).toInt := absR_lo (by decide)
  have hn' : (absR f 0).toNat = n := by rw [f0]; exact hn.symm
  have nm : ∀ p : Nat, p < n → Mt6 (nm6 o p) (nm6 f p) := fun p hp i hi => by
    show (o (121 + 6 * p + i)).toInt = (f (121 + 6 * p + i)).toInt
    rw [same _ (by omega) (by omega) (by omega) (by omega) (by omega)]
  have nn : Mt6 (nm6 o n) (pad lf lm) := fun i hi => en i hi
  refine ⟨⟨by rw [f0, o0]; exact e0, fun p hp => ?_, ?_, ?_, ?_, ?_, ?_⟩, fun p hp => ?_, fun k hk hk2 => ?_⟩
  · rw [f0] at hp
    have hp2 : p < n := by omega
    have w1 := (hG.1.2.1 p (by omega)).2.2.1
    refine ⟨?_, ?_, ?_, ?_, ?_, fun i hi => ?_⟩
    · rw [absR_lo (by omega), absR_lo (by omega), same _ (by omega) (by omega) (by omega) (by omega) (by omega)]
    · rw [absR_lo (by omega), absR_lo (by omega), same _ (by omega) (by omega) (by omega) (by omega) (by omega)]
    · rw [absR_lo (by omega), absR_lo (by omega), same _ (by omega) (by omega) (by omega) (by omega) (by omega)]
    · rw [absR_lo (by omega), absR_lo (by omega), same _ (by omega) (by omega) (by omega) (by omega) (by omega)]
    · rw [absR_n, absR_n, m6_cd (nm p hp2)]
    · rw [absR_lo (by omega)] at hi
      exact ⟨by rw [absR_lo (by omega), absR_lo (by omega), same _ (by omega) (by omega) (by omega) (by omega) (by omega)], by rw [absR_lo (by omega), absR_lo (by omega), same _ (by omega) (by omega) (by omega) (by omega) (by omega)]⟩
  · rw [hn', absR_lo (by omega)]; exact ek
  · rw [hn', absR_lo (by omega)]; exact ey
  · rw [hn', absR_lo (by omega), same _ (by omega) (by omega) (by omega) (by omega) (by omega)]
    exact (hG.2.1 n (by omega) (by omega)).2
  · rw [hn', absR_lo (by omega)]; exact eh
  · rw [hn', absR_n, m6_cd nn]; exact pad_cd hw
  · by_cases z : p < n
    · exact wf6_tr (nm p z) (hN p (by omega))
    · have : p = n := by omega
      subst this; exact wf6_tr nn (pad_wf hw)
  · rw [same _ (by omega) (by omega) (by omega) (by omega) (by omega)]
    exact hz k hk (by omega)
theorem absR_add2 {f F o lf : Nat → Int32} {lm : Int} {n a b : Nat} {c m w : Int32} (hG : GP f) (hN : NWF f) (hz : PZr f) (hw : WLF lf lm) (hn : n = (f 0).toInt.toNat) (h11 : n ≤ 11) (hF1 : ∀ j : Nat, j < 121 + 6 * n ∨ 121 + 6 * n + 6 ≤ j → F j = f j) (hF2 : ∀ j : Nat, j < 6 → (F (121 + 6 * n + j)).toInt = pad lf lm j) (ho : o = upd (upd (upd F a c) b m) 0 w) (ha : a = 1 + n) (hb : b = 109 + n) (hm : m.toInt = -1) (hw0 : w.toInt = (f 0).toInt + 1) : AddN (absR f) (absR o) c.toInt (wcd lf lm) 0 ∧ NWF o ∧ PZr o := by
  subst ha; subst hb
  refine absR_add hG hN hz hw hn h11 ?_ ?_ ?_ ?_ (fun j hj => ?_) (fun j j1 j2 j3 j4 j5 => ?_)
  · rw [ho, upd_at]; exact hw0
  · rw [ho, upd_ne _ _ (by omega), upd_ne _ _ (by omega), upd_at]
  · rw [ho, upd_ne _ _ (by omega), upd_ne _ _ (by omega), upd_ne _ _ (by omega), hF1 _ (by omega)]
    exact hz n (by omega) (by have := hG.1.1; omega)
  · rw [ho, upd_ne _ _ (by omega), upd_at]; exact hm
  · rw [ho, upd_ne _ _ (by omega), upd_ne _ _ (by omega), upd_ne _ _ (by omega)]; exact hF2 j hj
  · rw [ho, upd_ne _ _ j1, upd_ne _ _ j4, upd_ne _ _ j2]; exact hF1 j j5
theorem absR_add3 {f F o lf : Nat → Int32} {lm : Int} {n a b d : Nat} {c m v w : Int32} (hG : GP f) (hN : NWF f) (hz : PZr f) (hw : WLF lf lm) (hn : n = (f 0).toInt.toNat) (h11 : n ≤ 11) (hF1 : ∀ j : Nat, j < 121 + 6 * n ∨ 121 + 6 * n + 6 ≤ j → F j = f j) (hF2 : ∀ j : Nat, j < 6 → (F (121 + 6 * n + j)).toInt = pad lf lm j) (ho : o = upd (upd (upd (upd F a c) b m) d v) 0 w) (ha : a = 1 + n) (hb : b = 109 + n) (hd : d = 13 + n) (hm : m.toInt = -1) (hw0 : w.toInt = (f 0).toInt + 1) : AddN (absR f) (absR o) c.toInt (wcd lf lm) v.toInt ∧ NWF o ∧ PZr o := by
  subst ha; subst hb; subst hd
  refine absR_add hG hN hz hw hn h11 ?_ ?_ ?_ ?_ (fun j hj => ?_) (fun j j1 j2 j3 j4 j5 => ?_)
  · rw [ho, upd_at]; exact hw0
  · rw [ho, upd_ne _ _ (by omega), upd_ne _ _ (by omega), upd_ne _ _ (by omega), upd_at]
  · rw [ho, upd_ne _ _ (by omega), upd_at]
  · rw [ho, upd_ne _ _ (by omega), upd_ne _ _ (by omega), upd_at]; exact hm
  · rw [ho, upd_ne _ _ (by omega), upd_ne _ _ (by omega), upd_ne _ _ (by omega), upd_ne _ _ (by omega)]; exact hF2 j hj
  · rw [ho, upd_ne _ _ j1, upd_ne _ _ j3, upd_ne _ _ j4, upd_ne _ _ j2]; exact hF1 j j5
theorem absR_way {f o : Nat → Int32} {K V a b c : Nat} {r t w x : Int32} (hG : GP f) (hN : NWF f) (hz : PZr f) (r0 : 0 ≤ r.toInt) (r1 : r.toInt < (f 0).toInt) (hK : K = r.toInt.toNat) (hV : V = (f (25 + K)).toInt.toNat) (hV3 : (f (25 + K)).toInt < 3) (ho : o = upd (upd (upd f a t) b w) c x) (ha : a = 37 + 3 * K + V) (hb : b = 73 + 3 * K + V) (hc : c = 25 + K) (hx : x.toInt = (f (25 + K)).toInt + 1) : AddW (absR f) (absR o) r.toInt t.toInt w.toInt ∧ NWF o ∧ PZr o := by
  subst ha; subst hb; subst hc
  have g0 := hG.1.1
  have K12 : K < 12 := by omega
  have w0 := (hG.1.2.1 K K12).2.2.1
  have same : ∀ j : Nat, j ≠ 37 + 3 * K + V → j ≠ 73 + 3 * K + V → j ≠ 25 + K → o j = f j := fun j h1 h2 h3 => by rw [ho, upd_ne _ _ h3, upd_ne _ _ h2, upd_ne _ _ h1]
  have f0 : absR f 0 = (f 0).toInt := absR_lo (by decide)
  have o0 : absR o 0 = (o 0).toInt := absR_lo (by decide)
  have e0 : o 0 = f 0 := same 0 (by omega) (by omega) (by omega)
  have nm : ∀ p : Nat, Mt6 (nm6 o p) (nm6 f p) := fun p i hi => by
    show (o (121 + 6 * p + i)).toInt = (f (121 + 6 * p + i)).toInt
    rw [same _ (by omega) (by omega) (by omega)]
  have rn : r.toInt.toNat = K := hK.symm
  refine ⟨⟨by rw [f0, o0, e0], r0, by rw [f0]; exact r1, ?_, fun p hp hne => ?_, ?_, ?_, ?_, ?_, ?_, fun i hi => ?_, ?_, ?_⟩, fun p hp => wf6_tr (nm p) (hN p (by rw [← e0]; exact hp)), fun k hk hk2 => ?_⟩
  · rw [rn, absR_lo (by omega)]; omega
  · rw [f0] at hp
    have w1 := (hG.1.2.1 p (by omega)).2.2.1
    refine ⟨?_, ?_, ?_, ?_, ?_, fun i hi => ?_⟩
    · rw [absR_lo (by omega), absR_lo (by omega), same _ (by omega) (by omega) (by omega)]
    · rw [absR_lo (by omega), absR_lo (by omega), same _ (by omega) (by omega) (by omega)]
    · rw [absR_lo (by omega), absR_lo (by omega), same _ (by omega) (by omega) (by omega)]
    · rw [absR_lo (by omega), absR_lo (by omega), same _ (by omega) (by omega) (by omega)]
    · rw [absR_n, absR_n, m6_cd (nm p)]
    · rw [absR_lo (by omega)] at hi
      exact ⟨by rw [absR_lo (by omega), absR_lo (by omega), same _ (by omega) (by omega) (by omega)], by rw [absR_lo (by omega), absR_lo (by omega), same _ (by omega) (by omega) (by omega)]⟩
  · rw [rn, absR_lo (by omega), absR_lo (by omega), same _ (by omega) (by omega) (by omega)]
  · rw [rn, absR_lo (by omega), absR_lo (by omega), same _ (by omega) (by omega) (by omega)]
  · rw [rn, absR_lo (by omega), absR_lo (by omega), same _ (by omega) (by omega) (by omega)]
  · rw [rn, absR_n, absR_n, m6_cd (nm K)]
  · rw [rn, absR_lo (by omega), absR_lo (by omega), ho, upd_at]; exact hx
  · rw [rn, absR_lo (by omega)] at hi
    rw [rn]
    exact ⟨by rw [absR_lo (by omega), absR_lo (by omega), same _ (by omega) (by omega) (by omega)], by rw [absR_lo (by omega), absR_lo (by omega), same _ (by omega) (by omega) (by omega)]⟩
  · rw [rn, absR_lo (j := 25 + K) (by omega), ← hV, absR_lo (by omega), ho, upd_ne _ _ (by omega), upd_ne _ _ (by omega), upd_at]
  · rw [rn, absR_lo (j := 25 + K) (by omega), ← hV, absR_lo (by omega), ho, upd_ne _ _ (by omega), upd_at]
  · rw [same _ (by omega) (by omega) (by omega)]
    exact hz k hk (by rw [← e0]; exact hk2)
theorem absR_full {f : Nat → Int32} {c : Int} (hG : GP f) : FULL (absR f) c ↔ ((c = 0 ∧ gc f 0 (f 0).toInt.toNat = 4) ∨ (c ≠ 0 ∧ ((f 0).toInt - gc f 0 (f 0).toInt.toNat = 8 ∨ (c = 3 ∧ gc f 3 (f 0).toInt.toNat = 5)))) := by
  have g0 := hG.1.1
  have f0 : absR f 0 = (f 0).toInt := absR_lo (by decide)
  have e : ∀ z : Int, cn (absR f) z (f 0).toInt.toNat = gc f z (f 0).toInt.toNat := fun z => by rw [absR_cn (by omega), gc_cnf]
  have b0 := hG.2.2.2.2.2.2.1
  have b1 := hG.2.2.2.2.2.2.2.1
  have b3 := hG.2.2.2.2.2.2.2.2
  unfold FULL
  rw [f0, e 0, e 3]
  omega
theorem absR_lack {f : Nat → Int32} (hG : GP f) : LACK (absR f) ↔ ∃ p : Nat, (p : Int) < (f 0).toInt ∧ (f (1 + p)).toInt ≠ 0 ∧ (f (25 + p)).toInt = 0 := by
  have g0 := hG.1.1
  have f0 : absR f 0 = (f 0).toInt := absR_lo (by decide)
  unfold LACK
  rw [f0]
  constructor
  · rintro ⟨p, a, b, c⟩
    exact ⟨p, a, by rw [absR_lo (by omega)] at b; exact b, by rw [absR_lo (by omega)] at c; exact c⟩
  · rintro ⟨p, a, b, c⟩
    exact ⟨p, a, by rw [absR_lo (by omega)]; exact b, by rw [absR_lo (by omega)]; exact c⟩
/-- what the token tells, in the reference -/
def TV (t v num lm : Int) (lf : Nat → Int32) : Prop := (t = 1 → WLF lf lm ∧ v = wcd lf lm) ∧ (t = 2 → v = num)
theorem hl_upd {lf lf' : Nat → Int32} {j x i : Nat} {v : Int32} {c : Int} (e : lf' = upd lf i v) (hi : i = x - j) (hj : j ≤ x) (hv : v.toInt = c) : ∀ k : Nat, k < 6 → j + k ≤ x → (lf' k).toInt = if j + k = x then c else (lf k).toInt := fun k _ hk => by
  rw [e]
  by_cases z : j + k = x
  · have : k = i := by omega
    rw [if_pos z, this, upd_at]; exact hv
  · rw [if_neg z, upd_ne _ _ (by omega)]
theorem hl_same {lf : Nat → Int32} {j x : Nat} {c : Int} (h6 : 6 ≤ x - j) : ∀ k : Nat, k < 6 → j + k ≤ x → (lf k).toInt = if j + k = x then c else (lf k).toInt := fun k hk _ => by
  rw [if_neg (by omega)]
theorem game_same {g : Nat → Int} {z r s : Int} (h : (∃ P : Int, RFl g z P ∧ r = -1000 - P) ∨ (∃ a : Nat → Int, ROk g z a ∧ r = a 0)) (k : (∃ P : Int, RFl g z P ∧ s = -1000 - P) ∨ (∃ a : Nat → Int, ROk g z a ∧ s = a 0)) : r = s := by
  rcases h with ⟨P, h1, h2⟩ | ⟨a, h1, h2⟩
  · rcases k with ⟨Q, k1, k2⟩ | ⟨b, k1, k2⟩
    · rw [h2, k2, h1.det k1]
    · exact (k1.no h1).elim
  · rcases k with ⟨Q, k1, k2⟩ | ⟨b, k1, k2⟩
    · exact (h1.no k1).elim
    · rw [h2, k2, (h1.det k1).1]
theorem all_nx {P : Nat → Prop} {i j : Nat} (h : ∀ k : Nat, k < i → P k) (hi : P i) (e : j = i + 1) : ∀ k : Nat, k < j → P k := fun k hk => by
  rcases Nat.lt_or_ge k i with z | z
  · exact h k z
  · have : k = i := by omega
    subst this; exact hi
theorem nar_byte (x : Int32) : vp_nar .byte x = x.toInt8.toInt32 := rfl
/-! what feed lays on a tape -/
def by8 (v : Int32) (k : Nat) : Int := if k = 0 then v.toInt / 16777216 % 256 else if k = 1 then v.toInt / 65536 % 256 else if k = 2 then v.toInt / 256 % 256 else v.toInt % 256
def AP4 (f o : Nat → Int32) (n : Nat) (v : Int32) : Prop := (∀ j : Nat, j < n → o j = f j) ∧ ∀ k : Nat, k < 4 → (o (n + k)).toInt % 256 = by8 v k
def fdb (a b c d e : Int32) (i : Nat) : Int := if i < 4 then by8 a i else if i < 8 then by8 b (i - 4) else if i < 12 then by8 c (i - 8) else if i < 16 then by8 d (i - 12) else by8 e (i - 16)
def AP20 (f o : Nat → Int32) (n : Nat) (a b c d e : Int32) : Prop := (∀ j : Nat, j < n → o j = f j) ∧ ∀ i : Nat, i < 20 → (o (n + i)).toInt % 256 = fdb a b c d e i
theorem ap4_of {f o : Nat → Int32} {i0 i1 i2 i3 n : Nat} {a b c d v : Int32} (ho : o = upd (upd (upd (upd f i0 a) i1 b) i2 c) i3 d) (h0 : i0 = n) (h1 : i1 = n + 1) (h2 : i2 = n + 2) (h3 : i3 = n + 3) (ha : a.toInt % 256 = v.toInt / 16777216 % 256) (hb : b.toInt % 256 = v.toInt / 65536 % 256) (hc : c.toInt % 256 = v.toInt / 256 % 256) (hd : d.toInt % 256 = v.toInt % 256) : AP4 f o n v := by
  subst h0; subst h1; subst h2; subst h3
  refine ⟨fun j hj => ?_, fun k hk => ?_⟩
  · rw [ho, upd_ne _ _ (by omega), upd_ne _ _ (by omega), upd_ne _ _ (by omega), upd_ne _ _ (by omega)]
  · rcases (show k = 0 ∨ k = 1 ∨ k = 2 ∨ k = 3 by omega) with q | q | q | q <;> subst q
    · rw [ho, upd_ne _ _ (by omega), upd_ne _ _ (by omega), upd_ne _ _ (by omega), Nat.add_zero, upd_at]; exact ha
    · rw [ho, upd_ne _ _ (by omega), upd_ne _ _ (by omega), upd_at]; exact hb
    · rw [ho, upd_ne _ _ (by omega), upd_at]; exact hc
    · rw [ho, upd_at]; exact hd
theorem ap20_of {f o1 o2 o3 o4 o : Nat → Int32} {n n1 n2 n3 n4 : Nat} {a b c d e : Int32} (p1 : AP4 f o1 n a) (p2 : AP4 o1 o2 n1 b) (p3 : AP4 o2 o3 n2 c) (p4 : AP4 o3 o4 n3 d) (p5 : AP4 o4 o n4 e) (h1 : n1 = n + 4) (h2 : n2 = n + 8) (h3 : n3 = n + 12) (h4 : n4 = n + 16) : AP20 f o n a b c d e := by
  subst h1; subst h2; subst h3; subst h4
  refine ⟨fun j hj => ?_, fun i hi => ?_⟩
  · rw [p5.1 j (by omega), p4.1 j (by omega), p3.1 j (by omega), p2.1 j (by omega), p1.1 j hj]
  · unfold fdb
    by_cases q1 : i < 4
    · rw [if_pos q1, p5.1 _ (by omega), p4.1 _ (by omega), p3.1 _ (by omega), p2.1 _ (by omega)]; exact p1.2 i q1
    · rw [if_neg q1]
      by_cases q2 : i < 8
      · rw [if_pos q2, p5.1 _ (by omega), p4.1 _ (by omega), p3.1 _ (by omega), show n + i = n + 4 + (i - 4) by omega]; exact p2.2 _ (by omega)
      · rw [if_neg q2]
        by_cases q3 : i < 12
        · rw [if_pos q3, p5.1 _ (by omega), p4.1 _ (by omega), show n + i = n + 8 + (i - 8) by omega]; exact p3.2 _ (by omega)
        · rw [if_neg q3]
          by_cases q4 : i < 16
          · rw [if_pos q4, p5.1 _ (by omega), show n + i = n + 12 + (i - 12) by omega]; exact p4.2 _ (by omega)
          · rw [if_neg q4, show n + i = n + 16 + (i - 16) by omega]; exact p5.2 _ (by omega)
theorem ush_nat {x v : Int32} {s : Nat} {y : UInt32} (e : v = (x.toUInt32 >>> y).toInt32) (hy : y.toNat % 32 = s) : v.toInt % 256 = ((x.toBitVec.toNat / 2 ^ s : Nat) : Int) % 256 := by
  have h1 : v.toBitVec.toNat = x.toBitVec.toNat / 2 ^ s := by
    rw [e, ← hy, ← Nat.shiftRight_eq_div_pow]
    show (x.toUInt32 >>> y).toNat = _
    rw [UInt32.toNat_shiftRight]
    rfl
  have h2 : v.toInt = v.toBitVec.toInt := rfl
  rw [h2, BitVec.toInt_eq_toNat_cond, h1]
  split <;> omega
theorem int_nat (x : Int32) : x.toInt = x.toBitVec.toNat ∨ x.toInt = (x.toBitVec.toNat : Int) - 4294967296 := by
  have h2 : x.toInt = x.toBitVec.toInt := rfl
  rw [h2, BitVec.toInt_eq_toNat_cond]
  split
  · exact Or.inl rfl
  · exact Or.inr rfl
theorem cl24 {x v w : Int32} (e : v = (x.toUInt32 >>> ((24 : Int32).toUInt32 &&& Int32.toUInt32 31)).toInt32) (f : w = v &&& 255) : w.toInt % 256 = x.toInt / 16777216 % 256 := by
  have a := ush_nat (s := 24) e (by decide)
  have b := and255_mod v
  have c := int_nat x
  rw [f, b, a]; omega
theorem cl16 {x v w : Int32} (e : v = (x.toUInt32 >>> ((16 : Int32).toUInt32 &&& Int32.toUInt32 31)).toInt32) (f : w = v &&& 255) : w.toInt % 256 = x.toInt / 65536 % 256 := by
  have a := ush_nat (s := 16) e (by decide)
  have b := and255_mod v
  have c := int_nat x
  rw [f, b, a]; omega
theorem cl8 {x v w : Int32} (e : v = (x.toUInt32 >>> ((8 : Int32).toUInt32 &&& Int32.toUInt32 31)).toInt32) (f : w = v &&& 255) : w.toInt % 256 = x.toInt / 256 % 256 := by
  have a := ush_nat (s := 8) e (by decide)
  have b := and255_mod v
  have c := int_nat x
  rw [f, b, a]; omega
theorem cl0 {x v w : Int32} (e : v = (x.toUInt32 >>> ((0 : Int32).toUInt32 &&& Int32.toUInt32 31)).toInt32) (f : w = v &&& 255) : w.toInt % 256 = x.toInt % 256 := by
  have a := ush_nat (s := 0) e (by decide)
  have b := and255_mod v
  have c := int_nat x
  rw [f, b, a]; omega
theorem nar_mod (x : Int32) : (vp_nar .byte x).toInt % 256 = x.toInt % 256 := by
  rw [show vp_nar .byte x = x.toInt8.toInt32 from rfl, Int8.toInt_toInt32, Int32.toInt_toInt8]
  have e : x.toInt.bmod (2 ^ 8) = x.toInt.bmod 256 := rfl
  rw [e]
  show (if x.toInt % 256 < (256 + 1) / 2 then x.toInt % 256 else x.toInt % 256 - 256) % 256 = x.toInt % 256
  split <;> omega
theorem i2b_mod (x : Int32) : (x.toInt8.toInt32).toInt % 256 = x.toInt % 256 := by
  rw [Int8.toInt_toInt32, Int32.toInt_toInt8]
  have e : x.toInt.bmod (2 ^ 8) = x.toInt.bmod 256 := rfl
  rw [e]
  show (if x.toInt % 256 < (256 + 1) / 2 then x.toInt % 256 else x.toInt % 256 - 256) % 256 = x.toInt % 256
  split <;> omega
theorem shr_int {x v : Int32} {y : Int32} {s : Nat} (e : v = x >>> y) (hy : (y.toBitVec.smod 32).toNat = s) : v.toInt = x.toInt / ((2 ^ s : Nat) : Int) := by
  have h : v.toBitVec = x.toBitVec.sshiftRight s := by rw [e, ← hy]; rfl
  have h2 : v.toInt = v.toBitVec.toInt := rfl
  have h3 : x.toInt = x.toBitVec.toInt := rfl
  rw [h2, h, h3, BitVec.toInt_sshiftRight, Int.shiftRight_eq_div_pow]
/-! one cell of a network changes; the steps that can be taken back -/
def SetC (a a' : Nat → Int) (c : Nat) (v : Int) : Prop := ∀ j : Nat, j < 133 → a' j = if j = c then v else a j
/-- rows that agree -/
def EqC (a b : Nat → Int) : Prop := ∀ j : Nat, j < 133 → a j = b j
theorem AEq.set {a b a' b' : Nat → Int} {c : Nat} {v : Int} (h : AEq a b) (h12 : a 0 ≤ 12) (hw : ∀ p : Nat, (p : Int) < a 0 → a (25 + p) ≤ 3) (ha : SetC a a' c v) (hb : SetC b b' c v) (c0 : c ≠ 0) (cw : c < 25 ∨ 37 ≤ c) : AEq a' b' := by
  have a0 : a' 0 = a 0 := by rw [ha 0 (by decide), if_neg (by omega)]
  have b0 : b' 0 = b 0 := by rw [hb 0 (by decide), if_neg (by omega)]
  refine ⟨by rw [a0, b0]; exact h.1, fun p hp => ?_⟩
  rw [a0] at hp
  have s := h.2 p hp
  have p12 : p < 12 := by omega
  have one : ∀ j : Nat, j < 133 → a j = b j → a' j = b' j := fun j hj e => by
    rw [ha j hj, hb j hj]
    by_cases q : j = c
    · rw [if_pos q, if_pos q]
    · rw [if_neg q, if_neg q]; exact e
  refine ⟨one _ (by omega) s.1, one _ (by omega) s.2.1, one _ (by omega) s.2.2.1, one _ (by omega) s.2.2.2.1, one _ (by omega) s.2.2.2.2.1, fun i hi => ?_⟩
  have ew : a' (25 + p) = a (25 + p) := by rw [ha _ (by omega), if_neg (by omega)]
  rw [ew] at hi
  have i3 : i < 3 := by have := hw p hp; omega
  exact ⟨one _ (by omega) (s.2.2.2.2.2 i hi).1, one _ (by omega) (s.2.2.2.2.2 i hi).2⟩
theorem AEq.eqs {a b a' b' : Nat → Int} (h : AEq a b) (h12 : a 0 ≤ 12) (hw : ∀ p : Nat, (p : Int) < a 0 → a (25 + p) ≤ 3) (ha : EqC a' a) (hb : EqC b' b) : AEq a' b' := by
  refine ⟨by rw [ha 0 (by decide), hb 0 (by decide)]; exact h.1, fun p hp => ?_⟩
  rw [ha 0 (by decide)] at hp
  have s := h.2 p hp
  have p12 : p < 12 := by omega
  have one : ∀ j : Nat, j < 133 → a j = b j → a' j = b' j := fun j hj e => by rw [ha j hj, hb j hj]; exact e
  refine ⟨one _ (by omega) s.1, one _ (by omega) s.2.1, one _ (by omega) s.2.2.1, one _ (by omega) s.2.2.2.1, one _ (by omega) s.2.2.2.2.1, fun i hi => ?_⟩
  rw [ha _ (by omega)] at hi
  have i3 : i < 3 := by have := hw p hp; omega
  exact ⟨one _ (by omega) (s.2.2.2.2.2 i hi).1, one _ (by omega) (s.2.2.2.2.2 i hi).2⟩
theorem absC_setH {nd v : Int32} {k y n w h t x : Nat → Int32} {p : Nat} (hp : p < 12) : SetC (absC nd k y n w h t x) (absC nd k y n w (upd h p v) t x) (109 + p) v.toInt := fun j hj => by
  by_cases q : j = 109 + p
  · rw [if_pos q, q, absC_h hp, upd_at]
  · rw [if_neg q]
    unfold absC
    repeat' split
    all_goals first | rfl | rw [upd_ne _ _ (by omega)]
theorem absC_setP {nd v : Int32} {k y n w h t x : Nat → Int32} {p : Nat} (hp : p < 12) : SetC (absC nd k y n w h t x) (absC nd k (upd y p v) n w h t x) (13 + p) v.toInt := fun j hj => by
  by_cases q : j = 13 + p
  · rw [if_pos q, q, absC_y hp, upd_at]
  · rw [if_neg q]
    unfold absC
    repeat' split
    all_goals first | rfl | rw [upd_ne _ _ (by omega)]
theorem absC_setX {nd v : Int32} {k y n w h t x : Nat → Int32} {p i : Nat} (hp : p < 12) (hi : i < 3) : SetC (absC nd k y n w h t x) (absC nd k y n w h t (upd x (3 * p + i) v)) (73 + 3 * p + i) v.toInt := fun j hj => by
  by_cases q : j = 73 + 3 * p + i
  · rw [if_pos q, q, absC_x hp hi, upd_at]
  · rw [if_neg q]
    unfold absC
    repeat' split
    all_goals first | rfl | rw [upd_ne _ _ (by omega)]
theorem absR_eq {f g : Nat → Int32} (e : ∀ j : Nat, j < 193 → f j = g j) : EqC (absR f) (absR g) := fun j hj => by
  by_cases q : j < 121
  · rw [absR_lo q, absR_lo q, e j (by omega)]
  · obtain ⟨p, rfl⟩ : ∃ p, j = 121 + p := ⟨j - 121, by omega⟩
    rw [absR_n, absR_n]
    exact m6_cd (fun i hi => by show (f _).toInt = (g _).toInt; rw [e _ (by omega)])
theorem absR_set {f : Nat → Int32} {c : Nat} {v : Int32} (hc : c < 121) : SetC (absR f) (absR (upd f c v)) c v.toInt := fun j hj => by
  by_cases q : j = c
  · rw [if_pos q, q, absR_lo hc, upd_at]
  · rw [if_neg q]
    by_cases l : j < 121
    · rw [absR_lo l, absR_lo l, upd_ne _ _ q]
    · obtain ⟨p, rfl⟩ : ∃ p, j = 121 + p := ⟨j - 121, by omega⟩
      rw [absR_n, absR_n]
      exact m6_cd (fun i hi => by show (upd f c v _).toInt = (f _).toInt; rw [upd_ne _ _ (by omega)])
/-- which cell a step changed -/
def cellOf (w n i : Int) : Nat := if w = 0 then 109 + n.toNat else if w = 1 then 73 + 3 * n.toNat + i.toNat else 13 + n.toNat
def USr (cnt : Int) (w n i b : Nat → Int32) (R : Nat → Nat → Int) : Prop := ∀ j : Nat, (j : Int) < cnt → SetC (R (j + 1)) (R j) (cellOf (w j).toInt (n j).toInt (i j).toInt) (b j).toInt
def rowsOf (und s : Nat → Int32) (cnt : Int) : Nat → Nat → Int := fun j => if (j : Int) < cnt then absR (sl und (193 * j)) else absR s
theorem rowsOf_lt {und s : Nat → Int32} {cnt : Int} {j : Nat} (h : (j : Int) < cnt) : rowsOf und s cnt j = absR (sl und (193 * j)) := if_pos h
theorem rowsOf_ge {und s : Nat → Int32} {cnt : Int} {j : Nat} (h : ¬ (j : Int) < cnt) : rowsOf und s cnt j = absR s := if_neg h
/-- laid on top; the oldest of eight is forgotten -/
def PUs (c c' : Int) (w w' : Nat → Int32) (x : Int32) : Prop := (c < 8 → c' = c + 1 ∧ (∀ j : Nat, (j : Int) < c → w' j = w j) ∧ w' c.toNat = x) ∧ (8 ≤ c → c' = 8 ∧ (∀ j : Nat, j < 7 → w' j = w (j + 1)) ∧ w' 7 = x)
/-- the same of the reference's rows -/
def PUr (c c' : Int) (u u' s : Nat → Int32) : Prop := (c < 8 → c' = c + 1 ∧ (∀ j : Nat, (j : Int) < c → ∀ i : Nat, i < 193 → u' (193 * j + i) = u (193 * j + i)) ∧ ∀ i : Nat, i < 193 → u' (193 * c.toNat + i) = s i) ∧ (8 ≤ c → c' = 8 ∧ (∀ j : Nat, j < 7 → ∀ i : Nat, i < 193 → u' (193 * j + i) = u (193 * (j + 1) + i)) ∧ ∀ i : Nat, i < 193 → u' (193 * 7 + i) = s i)
theorem SetC.tr {a b a' b' : Nat → Int} {c : Nat} {v : Int} (h : SetC a b c v) (ha : EqC a' a) (hb : EqC b' b) : SetC a' b' c v := fun j hj => by
  rw [hb j hj, ha j hj]; exact h j hj
theorem EqC.rfl' (a : Nat → Int) : EqC a a := fun _ _ => rfl
theorem EqC.symm {a b : Nat → Int} (h : EqC a b) : EqC b a := fun j hj => (h j hj).symm
theorem USr.push {c c' d d' : Int} {w n i b w' n' i' b' u u' s s' : Nat → Int32} {W P I B : Int32} (h : USr c w n i b (rowsOf u s c)) (hd : d = c) (c0 : 0 ≤ c) (c8 : c ≤ 8) (pw : PUs c c' w w' W) (pn : PUs c c' n n' P) (pi : PUs c c' i i' I) (pb : PUs c c' b b' B) (pu : PUr d d' u u' s) (hs : SetC (absR s') (absR s) (cellOf W.toInt P.toInt I.toInt) B.toInt) : USr c' w' n' i' b' (rowsOf u' s' c') := by
  subst hd
  intro j hj
  by_cases q : d < 8
  · obtain ⟨e, w1, w2⟩ := pw.1 q
    obtain ⟨-, n1, n2⟩ := pn.1 q
    obtain ⟨-, i1, i2⟩ := pi.1 q
    obtain ⟨-, b1, b2⟩ := pb.1 q
    obtain ⟨-, u1, u2⟩ := pu.1 q
    subst e
    have row : ∀ k : Nat, (k : Int) < d → EqC (rowsOf u' s' (d + 1) k) (rowsOf u s d k) := fun k hk => by
      rw [rowsOf_lt (by omega), rowsOf_lt hk]
      exact absR_eq (fun z hz => u1 k hk z hz)
    have top : EqC (rowsOf u' s' (d + 1) d.toNat) (absR s) := by
      rw [rowsOf_lt (by omega)]
      exact absR_eq (fun z hz => u2 z hz)
    by_cases z : (j : Int) < d
    · rw [w1 j z, n1 j z, i1 j z, b1 j z]
      refine (h j z).tr ?_ (row j z)
      by_cases y : ((j + 1 : Nat) : Int) < d
      · exact row (j + 1) y
      · have : j + 1 = d.toNat := by omega
        rw [this, rowsOf_ge (und := u) (s := s) (cnt := d) (j := d.toNat) (by omega)]
        exact top
    · have : j = d.toNat := by omega
      subst this
      rw [w2, n2, i2, b2]
      refine hs.tr ?_ top
      rw [rowsOf_ge (by omega)]
      exact EqC.rfl' _
  · obtain ⟨e, w1, w2⟩ := pw.2 (by omega)
    obtain ⟨-, n1, n2⟩ := pn.2 (by omega)
    obtain ⟨-, i1, i2⟩ := pi.2 (by omega)
    obtain ⟨-, b1, b2⟩ := pb.2 (by omega)
    obtain ⟨-, u1, u2⟩ := pu.2 (by omega)
    subst e
    have row : ∀ k : Nat, k < 7 → EqC (rowsOf u' s' 8 k) (rowsOf u s d (k + 1)) := fun k hk => by
      rw [rowsOf_lt (by omega), rowsOf_lt (by omega)]
      exact absR_eq (fun z hz => u1 k hk z hz)
    have top : EqC (rowsOf u' s' 8 7) (absR s) := by
      rw [rowsOf_lt (by decide)]
      exact absR_eq (fun z hz => u2 z hz)
    by_cases z : j < 7
    · rw [w1 j z, n1 j z, i1 j z, b1 j z]
      refine (h (j + 1) (by omega)).tr ?_ (row j z)
      by_cases y : j + 1 < 7
      · exact row (j + 1) y
      · have : j + 1 = 7 := by omega
        rw [this, rowsOf_ge (j := 7 + 1) (by omega)]
        exact top
    · have : j = 7 := by omega
      subst this
      rw [w2, n2, i2, b2]
      refine hs.tr ?_ top
      rw [rowsOf_ge (by decide)]
      exact EqC.rfl' _
/-- one step back -/
theorem USr.back {c : Int} {w n i b u s s' : Nat → Int32} (h : USr c w n i b (rowsOf u s c)) (c0 : 0 < c) (hs : ∀ j : Nat, j < 193 → s' j = u (193 * (c.toNat - 1) + j)) : USr (c - 1) w n i b (rowsOf u s' (c - 1)) ∧ SetC (absR s) (absR s') (cellOf (w (c.toNat - 1)).toInt (n (c.toNat - 1)).toInt (i (c.toNat - 1)).toInt) (b (c.toNat - 1)).toInt := by
  have es : EqC (absR s') (rowsOf u s c (c.toNat - 1)) := by
    rw [rowsOf_lt (by omega)]
    exact absR_eq (fun z hz => hs z hz)
  have row : ∀ k : Nat, (k : Int) < c → EqC (rowsOf u s' (c - 1) k) (rowsOf u s c k) := fun k hk => by
    by_cases y : (k : Int) < c - 1
    · rw [rowsOf_lt y, rowsOf_lt hk]; exact EqC.rfl' _
    · have : k = c.toNat - 1 := by omega
      subst this
      rw [rowsOf_ge y]; exact es
  refine ⟨fun j hj => (h j (by omega)).tr (row (j + 1) (by omega)) (row j (by omega)), ?_⟩
  have q := h (c.toNat - 1) (by omega)
  refine q.tr ?_ es
  rw [rowsOf_ge (by omega)]
  exact EqC.rfl' _
theorem USr.nil {c : Int} {w n i b : Nat → Int32} {R : Nat → Nat → Int} (h : c ≤ 0) : USr c w n i b R := fun j hj => by omega
theorem cell_h {w n i : Int} (h : w = 0) : cellOf w n i = 109 + n.toNat := if_pos h
theorem cell_x {w n i : Int} (h : w = 1) : cellOf w n i = 73 + 3 * n.toNat + i.toNat := by
  unfold cellOf
  rw [if_neg (by omega), if_pos h]
theorem cell_p {w n i : Int} (h0 : w ≠ 0) (h1 : w ≠ 1) : cellOf w n i = 13 + n.toNat := by
  unfold cellOf
  rw [if_neg h0, if_neg h1]
/-! the class's network and the reference's row: what agrees, what a change keeps -/
theorem ae_at {nd : Int32} {k y n w h t x f : Nat → Int32} (hA : AEq (absC nd k y n w h t x) (absR f)) (h12 : nd.toInt ≤ 12) : nd.toInt = (f 0).toInt ∧ ∀ p : Nat, (p : Int) < nd.toInt → (k p).toInt = (f (1 + p)).toInt ∧ (y p).toInt = (f (13 + p)).toInt ∧ (w p).toInt = (f (25 + p)).toInt ∧ (h p).toInt = (f (109 + p)).toInt ∧ ∀ i : Nat, i < 3 → (i : Int) < (w p).toInt → (t (3 * p + i)).toInt = (f (37 + 3 * p + i)).toInt ∧ (x (3 * p + i)).toInt = (f (73 + 3 * p + i)).toInt := by
  refine ⟨?_, fun p hp => ?_⟩
  · have e := hA.1
    rw [absC_0, absR_lo (by decide)] at e; exact e
  · have p12 : p < 12 := by omega
    obtain ⟨s1, s2, s3, s4, -, s6⟩ := hA.2 p hp
    rw [absC_k p12, absR_lo (by omega)] at s1
    rw [absC_y p12, absR_lo (by omega)] at s2
    rw [absC_w p12, absR_lo (by omega)] at s3
    rw [absC_h p12, absR_lo (by omega)] at s4
    refine ⟨s1, s2, s3, s4, fun i hi hw => ?_⟩
    obtain ⟨q1, q2⟩ := s6 i (by rw [absC_w p12]; exact hw)
    rw [absC_t p12 hi, absR_lo (by omega)] at q1
    rw [absC_x p12 hi, absR_lo (by omega)] at q2
    exact ⟨q1, q2⟩
theorem absC_lim {nd : Int32} {k y n w h t x : Nat → Int32} (h12 : nd.toInt ≤ 12) (hw : ∀ p : Nat, 0 ≤ (w p).toInt ∧ (w p).toInt ≤ 3) : absC nd k y n w h t x 0 ≤ 12 ∧ ∀ p : Nat, (p : Int) < absC nd k y n w h t x 0 → absC nd k y n w h t x (25 + p) ≤ 3 := by
  refine ⟨h12, fun p hp => ?_⟩
  have hp' : (p : Int) < nd.toInt := hp
  rw [absC_w (by omega)]; exact (hw p).2
theorem absR_back {f : Nat → Int32} {c : Nat} {X B : Int32} (hc : c < 121) (hB : B.toInt = (f c).toInt) : SetC (absR (upd f c X)) (absR f) c B.toInt := fun j hj => by
  have s := absR_set (f := f) (v := X) hc j hj
  by_cases q : j = c
  · rw [if_pos q, q, absR_lo hc, hB]
  · rw [if_neg q] at s
    rw [if_neg q, s]
theorem pu_count {c c' d d' : Int} {w w' u u' s : Nat → Int32} {x : Int32} (h : d = c) (pw : PUs c c' w w' x) (pu : PUr d d' u u' s) : d' = c' := by
  subst h
  by_cases q : d < 8
  · have a := (pw.1 q).1
    have b := (pu.1 q).1
    omega
  · have a := (pw.2 (by omega)).1
    have b := (pu.2 (by omega)).1
    omega
/-- a cell was changed on both sides, what it held before was laid by -/
theorem chg_do {A A' : Nat → Int} {f f' u u' w n i b w' n' i' b' : Nat → Int32} {c c' d d' : Int} {W P I B X : Int32} {cell : Nat} (hAE : AEq A (absR f)) (h12 : A 0 ≤ 12) (hw : ∀ p : Nat, (p : Int) < A 0 → A (25 + p) ≤ 3) (hUS : USr c w n i b (rowsOf u f c)) (hcd : d = c) (c0 : 0 ≤ c) (c8 : c ≤ 8) (pp : PUs c c' w w' W ∧ PUs c c' n n' P ∧ PUs c c' i i' I ∧ PUs c c' b b' B) (sC : SetC A A' cell X.toInt) (pu : PUr d d' u u' f) (ef : f' = upd f cell X) (hcell : cellOf W.toInt P.toInt I.toInt = cell) (hB : B.toInt = (f cell).toInt) (c121 : cell < 121) (c00 : cell ≠ 0) (cw : cell < 25 ∨ 37 ≤ cell) : AEq A' (absR f') ∧ USr c' w' n' i' b' (rowsOf u' f' c') ∧ d' = c' := by
  refine ⟨hAE.set h12 hw sC (by rw [ef]; exact absR_set c121) c00 cw, ?_, pu_count hcd pp.1 pu⟩
  refine hUS.push hcd c0 c8 pp.1 pp.2.1 pp.2.2.1 pp.2.2.2 pu ?_
  rw [hcell, ef]
  exact absR_back c121 hB
theorem cpy_row {f t g : Nat → Int32} {a b A : Nat} (e : g = va_cpy f t a b 193) (hb : b = 0) (ha : a = A) {j : Nat} (hj : j < 193) : g j = f (A + j) := by
  subst hb; subst ha
  rw [e]; unfold va_cpy
  rw [if_pos (by omega), show a + (j - 0) = a + j by omega]
theorem cpy_in {f t g : Nat → Int32} {a b B : Nat} (e : g = va_cpy f t a b 193) (ha : a = 0) (hb : b = B) {j : Nat} (hj : j < 193) : g (B + j) = f j := by
  subst ha; subst hb
  rw [e]; unfold va_cpy
  rw [if_pos (by omega), show 0 + (b + j - b) = j by omega]
theorem cpy_out {f t g : Nat → Int32} {a b : Nat} (e : g = va_cpy f t a b 193) {j : Nat} (hj : j < b ∨ b + 193 ≤ j) : g j = t j := by
  rw [e]; unfold va_cpy
  rw [if_neg (by omega)]
theorem cpy_out2 {f t g : Nat → Int32} {a b B : Nat} (e : g = va_cpy f t a b 193) (hb : b = B) {j : Nat} (hj : j < B ∨ B + 193 ≤ j) : g j = t j := by
  subst hb; exact cpy_out e hj
/-! counts of a network -/
def bit1 (n : Nat) : Int32 := (1 : Int32) <<< (Int32.ofInt (n : Int) &&& 31)
theorem bit1_at {p v : Int32} {n : Nat} (e : v = (1 : Int32) <<< (p &&& 31)) (hn : p.toInt = (n : Int)) : v = bit1 n := by
  unfold bit1
  rw [← hn, Int32.ofInt_toInt]; exact e
def hbF (h : Nat → Int) : Nat → Int32
  | 0 => 0
  | n + 1 => if h n = -1 then hbF h n else hbF h n ||| bit1 n
theorem hbF_congr {h q : Nat → Int} : ∀ {n : Nat}, (∀ p : Nat, p < n → h p = q p) → hbF h n = hbF q n
  | 0, _ => rfl
  | n + 1, e => by
    show (if h n = -1 then hbF h n else hbF h n ||| bit1 n) = (if q n = -1 then hbF q n else hbF q n ||| bit1 n)
    rw [hbF_congr (n := n) (fun p hp => e p (Nat.lt_succ_of_lt hp)), e n (Nat.lt_succ_self n)]
theorem hbF_n {h : Nat → Int} {t t' : Int32} {a b : Nat} (e : t = hbF h a) (hb : b = a + 1) (hk : h a = -1) (ht : t' = t) : t' = hbF h b := by
  subst hb
  show t' = if h a = -1 then hbF h a else hbF h a ||| bit1 a
  rw [if_pos hk, ← e]; exact ht
theorem hbF_y {h : Nat → Int} {t t' v : Int32} {a b : Nat} (e : t = hbF h a) (hb : b = a + 1) (hk : ¬ h a = -1) (hv : v = bit1 a) (ht : t' = t ||| v) : t' = hbF h b := by
  subst hb
  show t' = if h a = -1 then hbF h a else hbF h a ||| bit1 a
  rw [if_neg hk, ← e, ← hv]; exact ht
def CNT (n : Int) (k w h : Nat → Int) (len what : Int) (r : Int32) : Prop := (what = 0 → r.toInt = n) ∧ (what = 1 → r.toInt = cnf k 1 n.toNat) ∧ (what = 2 → r.toInt = cnf k 2 n.toNat) ∧ (what = 3 → r.toInt = cnf k 3 n.toNat) ∧ (what = 4 → r.toInt = cnf k 0 n.toNat) ∧ (what = 5 → r.toInt = wsf w n.toNat) ∧ (what = 6 → r = hbF h n.toNat) ∧ (what = 7 → r.toInt = len) ∧ ((what < 0 ∨ 7 < what) → r.toInt = -1)
theorem CNT.det {n m : Int} {k w h k' w' h' : Nat → Int} {len len' what : Int} {r r' : Int32} (x : CNT n k w h len what r) (y : CNT m k' w' h' len' what r') (hn : n = m) (hl : len = len') (e : ∀ p : Nat, p < n.toNat → k p = k' p ∧ w p = w' p ∧ h p = h' p) : r.toInt = r'.toInt := by
  subst hn; subst hl
  obtain ⟨x0, x1, x2, x3, x4, x5, x6, x7, x8⟩ := x
  obtain ⟨y0, y1, y2, y3, y4, y5, y6, y7, y8⟩ := y
  have ck : ∀ z : Int, cnf k z n.toNat = cnf k' z n.toNat := fun z => cnf_congr (fun p hp => (e p hp).1)
  rcases (show what = 0 ∨ what = 1 ∨ what = 2 ∨ what = 3 ∨ what = 4 ∨ what = 5 ∨ what = 6 ∨ what = 7 ∨ (what < 0 ∨ 7 < what) by omega) with q | q | q | q | q | q | q | q | q
  · rw [x0 q, y0 q]
  · rw [x1 q, y1 q, ck]
  · rw [x2 q, y2 q, ck]
  · rw [x3 q, y3 q, ck]
  · rw [x4 q, y4 q, ck]
  · rw [x5 q, y5 q, wsf_congr (fun p hp => (e p hp).2.1)]
  · rw [x6 q, y6 q, hbF_congr (fun p hp => (e p hp).2.2)]
  · rw [x7 q, y7 q]
  · rw [x8 q, y8 q]
theorem orz (x : Int32) : x ||| 0 = x := by
  apply Int32.toBitVec_inj.mp
  show x.toBitVec ||| 0#32 = x.toBitVec
  simp
theorem wsf_yR {h : Nat → Int} {t t' : Int} {a b : Nat} (e : t = wsf h a) (hb : b = a + 1) (ht : t' = t + h a) : t' = wsf h b := by
  subst hb
  show t' = wsf h a + h a
  rw [← e]; exact ht
theorem rch_0 {g : Nat → Int} {i : Nat} {t : Int} {j e : Nat} {v : Int} {a : Nat → Int} (h : TK g i t j e v) (hi : i = 0) (h0 : a 0 = 0) : RCH g 0 t j e v a := by
  subst hi; exact ⟨h, h0⟩
theorem rch_s {g : Nat → Int} {k k' : Nat} {t : Int} {j e : Nat} {v : Int} {a : Nat → Int} {t' : Int} {j' e' : Nat} {v' : Int} {a' : Nat → Int} (h : RCH g k t j e v a) (h0 : t ≠ 0) (q : LOk g t j e v a t' j' e' v' a') (hk : k' = k + 1) : RCH g k' t' j' e' v' a' := by
  subst hk; exact ⟨t, j, e, v, a, h, h0, q⟩
theorem rfl_line {g : Nat → Int} {z P : Int} {k : Nat} {t : Int} {j e : Nat} {v : Int} {a : Nat → Int} (hz : z ≤ 400) (h : RCH g k t j e v a) (h0 : t ≠ 0) (q : LFl g t j e v a P) : RFl g z P := Or.inr ⟨hz, k, t, j, e, v, a, h, Or.inl ⟨h0, q⟩⟩
theorem rfl_lack {g : Nat → Int} {z P : Int} {k : Nat} {t : Int} {j e : Nat} {v : Int} {a : Nat → Int} (hz : z ≤ 400) (h : RCH g k t j e v a) (h0 : t = 0) (q : LACK a) (hP : P = z) : RFl g z P := Or.inr ⟨hz, k, t, j, e, v, a, h, Or.inr ⟨h0, q, hP⟩⟩
theorem rok_of {g : Nat → Int} {z : Int} {k : Nat} {t : Int} {j e : Nat} {v : Int} {a : Nat → Int} (hz : z ≤ 400) (h : RCH g k t j e v a) (h0 : t = 0) (q : ¬ LACK a) : ROk g z a := ⟨hz, k, t, j, e, v, h, h0, q⟩
/-! sets of nodes that are forced: the same steps on both sides -/
def ahF (h : Int) (t : Nat → Int32) : Nat → Int32
  | 0 => 0
  | i + 1 => if h = -1 ∨ h = (i : Int) then ahF h t i ||| ((1 : Int32) <<< (t i &&& 31)) else ahF h t i
theorem ahF_congr {h : Int} {t q : Nat → Int32} : ∀ {n : Nat}, (∀ i : Nat, i < n → t i = q i) → ahF h t n = ahF h q n
  | 0, _ => rfl
  | n + 1, e => by
    show (if h = -1 ∨ h = (n : Int) then ahF h t n ||| ((1 : Int32) <<< (t n &&& 31)) else ahF h t n) = (if h = -1 ∨ h = (n : Int) then ahF h q n ||| ((1 : Int32) <<< (q n &&& 31)) else ahF h q n)
    rw [ahF_congr (n := n) (fun p hp => e p (Nat.lt_succ_of_lt hp)), e n (Nat.lt_succ_self n)]
theorem ahF_y {h : Int} {t : Nat → Int32} {x x' v u : Int32} {a b : Nat} (e : x = ahF h t a) (hb : b = a + 1) (hk : h = -1 ∨ h = (a : Int)) (hu : u = t a) (hv : v = (1 : Int32) <<< (u &&& 31)) (ht : x' = x ||| v) : x' = ahF h t b := by
  subst hb
  show x' = if h = -1 ∨ h = (a : Int) then ahF h t a ||| ((1 : Int32) <<< (t a &&& 31)) else ahF h t a
  rw [if_pos hk, ← e, ← hu, ← hv]; exact ht
theorem ahF_n {h : Int} {t : Nat → Int32} {x x' : Int32} {a b : Nat} (e : x = ahF h t a) (hb : b = a + 1) (hk : ¬ (h = -1 ∨ h = (a : Int))) (ht : x' = x) : x' = ahF h t b := by
  subst hb
  show x' = if h = -1 ∨ h = (a : Int) then ahF h t a ||| ((1 : Int32) <<< (t a &&& 31)) else ahF h t a
  rw [if_neg hk, ← e]; exact ht
abbrev fcC (who kk : Int) (a y : Int32) : Prop := ¬ kk = 0 ∧ ((kk = who ∧ ¬ a &&& y = 0) ∨ (¬ kk = who ∧ a &&& (y ^^^ (-1)) = 0))
def swF (who : Int) (k : Nat → Int) (a : Nat → Int32) (x : Int32) : Nat → Int32
  | 0 => x
  | p + 1 => if fcC who (k p) (a p) (swF who k a x p) then swF who k a x p ||| bit1 p else swF who k a x p
theorem swF_congr {who : Int} {k q : Nat → Int} {a b : Nat → Int32} {x : Int32} : ∀ {n : Nat}, (∀ p : Nat, p < n → k p = q p ∧ a p = b p) → swF who k a x n = swF who q b x n
  | 0, _ => rfl
  | n + 1, e => by
    show (if fcC who (k n) (a n) (swF who k a x n) then swF who k a x n ||| bit1 n else swF who k a x n) = (if fcC who (q n) (b n) (swF who q b x n) then swF who q b x n ||| bit1 n else swF who q b x n)
    rw [swF_congr (n := n) (fun p hp => e p (Nat.lt_succ_of_lt hp)), (e n (Nat.lt_succ_self n)).1, (e n (Nat.lt_succ_self n)).2]
theorem swF_y {who : Int} {k : Nat → Int} {a : Nat → Int32} {x y y' v : Int32} {p q : Nat} (e : y = swF who k a x p) (hb : q = p + 1) (hk : fcC who (k p) (a p) y) (hv : v = bit1 p) (ht : y' = y ||| v) : y' = swF who k a x q := by
  subst hb
  show y' = if fcC who (k p) (a p) (swF who k a x p) then swF who k a x p ||| bit1 p else swF who k a x p
  rw [← e, if_pos hk, ← hv]; exact ht
theorem swF_n {who : Int} {k : Nat → Int} {a : Nat → Int32} {x y y' : Int32} {p q : Nat} (e : y = swF who k a x p) (hb : q = p + 1) (hk : ¬ fcC who (k p) (a p) y) (ht : y' = y) : y' = swF who k a x q := by
  subst hb
  show y' = if fcC who (k p) (a p) (swF who k a x p) then swF who k a x p ||| bit1 p else swF who k a x p
  rw [← e, if_neg hk]; exact ht
def itF (who : Int) (k : Nat → Int) (a : Nat → Int32) (n : Nat) (x : Int32) : Nat → Int32
  | 0 => x
  | j + 1 => swF who k a (itF who k a n x j) n
theorem itF_congr {who : Int} {k q : Nat → Int} {a b : Nat → Int32} {n : Nat} {x : Int32} (e : ∀ p : Nat, p < n → k p = q p ∧ a p = b p) : ∀ j : Nat, itF who k a n x j = itF who q b n x j
  | 0 => rfl
  | j + 1 => by
    show swF who k a (itF who k a n x j) n = swF who q b (itF who q b n x j) n
    rw [itF_congr e j]; exact swF_congr e
/-- bits -/
def gbt (x : Int32) (p : Nat) : Bool := x.toBitVec.getLsbD p
theorem bit1_bv {p : Nat} (h : p < 12) : (bit1 p).toBitVec = BitVec.twoPow 32 p := by
  rcases (show p = 0 ∨ p = 1 ∨ p = 2 ∨ p = 3 ∨ p = 4 ∨ p = 5 ∨ p = 6 ∨ p = 7 ∨ p = 8 ∨ p = 9 ∨ p = 10 ∨ p = 11 by omega) with rfl | rfl | rfl | rfl | rfl | rfl | rfl | rfl | rfl | rfl | rfl | rfl <;> decide
theorem gbt_or {y : Int32} {p q : Nat} (h : p < 12) : gbt (y ||| bit1 p) q = (gbt y q || decide (p = q)) := by
  have e : (y ||| bit1 p).toBitVec = y.toBitVec ||| (bit1 p).toBitVec := rfl
  unfold gbt
  rw [e, bit1_bv h, BitVec.getLsbD_or, BitVec.getLsbD_twoPow]
  have h32 : p < 32 := by omega
  simp [h32]
theorem orb_same {y : Int32} {p : Nat} (h : p < 12) (hb : gbt y p = true) : y ||| bit1 p = y := by
  apply Int32.toBitVec_inj.mp
  apply BitVec.eq_of_getLsbD_eq
  intro i _
  have q := gbt_or (y := y) (q := i) h
  unfold gbt at q hb
  rw [q]
  by_cases z : p = i
  · subst z; simp [hb]
  · simp [z]
theorem sw_mono {who : Int} {k : Nat → Int} {a : Nat → Int32} {x : Int32} {q : Nat} (h : gbt x q = true) : ∀ {n : Nat}, n ≤ 12 → gbt (swF who k a x n) q = true
  | 0, _ => h
  | n + 1, hn => by
    have ih := sw_mono (who := who) (k := k) (a := a) h (n := n) (by omega)
    show gbt (if fcC who (k n) (a n) (swF who k a x n) then swF who k a x n ||| bit1 n else swF who k a x n) q = true
    split
    · rw [gbt_or (by omega), ih]; rfl
    · exact ih
theorem sw_new {who : Int} {k : Nat → Int} {a : Nat → Int32} {x : Int32} : ∀ {n : Nat}, n ≤ 12 → swF who k a x n ≠ x → ∃ p : Nat, p < n ∧ gbt x p = false ∧ gbt (swF who k a x n) p = true
  | 0, _, h => absurd rfl h
  | n + 1, hn, h => by
    by_cases z : swF who k a x n = x
    · have e : swF who k a x (n + 1) = if fcC who (k n) (a n) (swF who k a x n) then swF who k a x n ||| bit1 n else swF who k a x n := rfl
      by_cases c : fcC who (k n) (a n) (swF who k a x n)
      · rw [if_pos c, z] at e
        refine ⟨n, Nat.lt_succ_self n, ?_, ?_⟩
        · cases hb : gbt x n with
          | false => rfl
          | true => exact absurd (e.trans (orb_same (by omega) hb)) h
        · rw [e, gbt_or (by omega)]; simp
      · rw [if_neg c, z] at e
        exact absurd e h
    · obtain ⟨p, hp, h1, h2⟩ := sw_new (n := n) (by omega) z
      refine ⟨p, by omega, h1, ?_⟩
      show gbt (if fcC who (k n) (a n) (swF who k a x n) then swF who k a x n ||| bit1 n else swF who k a x n) p = true
      split
      · rw [gbt_or (by omega), h2]; rfl
      · exact h2
def cb12 (x : Int32) : Nat → Nat
  | 0 => 0
  | p + 1 => cb12 x p + if gbt x p = true then 1 else 0
theorem cb12_le {x y : Int32} (h : ∀ p : Nat, gbt x p = true → gbt y p = true) : ∀ n : Nat, cb12 x n ≤ cb12 y n
  | 0 => Nat.le_refl 0
  | n + 1 => by
    have ih := cb12_le h n
    show cb12 x n + (if gbt x n = true then 1 else 0) ≤ cb12 y n + (if gbt y n = true then 1 else 0)
    by_cases z : gbt x n = true
    · rw [if_pos z, if_pos (h n z)]; omega
    · rw [if_neg z]
      split <;> omega
theorem cb12_lt {x y : Int32} (h : ∀ p : Nat, gbt x p = true → gbt y p = true) {q : Nat} (h1 : gbt x q = false) (h2 : gbt y q = true) : ∀ n : Nat, q < n → cb12 x n < cb12 y n
  | 0, hq => absurd hq (Nat.not_lt_zero q)
  | n + 1, hq => by
    show cb12 x n + (if gbt x n = true then 1 else 0) < cb12 y n + (if gbt y n = true then 1 else 0)
    by_cases z : q = n
    · subst z
      have ih := cb12_le h q
      rw [if_neg (by rw [h1]; decide), if_pos h2]; omega
    · have ih := cb12_lt h h1 h2 n (by omega)
      by_cases w : gbt x n = true
      · rw [if_pos w, if_pos (h n w)]; omega
      · rw [if_neg w]
        split <;> omega
theorem cb12_n (x : Int32) : ∀ n : Nat, cb12 x n ≤ n ∧ (cb12 x n = n → ∀ p : Nat, p < n → gbt x p = true)
  | 0 => ⟨Nat.le_refl 0, fun _ p hp => absurd hp (Nat.not_lt_zero p)⟩
  | n + 1 => by
    obtain ⟨i1, i2⟩ := cb12_n x n
    have e : cb12 x (n + 1) = cb12 x n + if gbt x n = true then 1 else 0 := rfl
    by_cases z : gbt x n = true
    · rw [if_pos z] at e
      refine ⟨by omega, fun q p hp => ?_⟩
      by_cases y : p = n
      · subst y; exact z
      · exact i2 (by omega) p (by omega)
    · rw [if_neg z] at e
      exact ⟨by omega, fun q => by omega⟩
theorem it_stay {who : Int} {k : Nat → Int} {a : Nat → Int32} {n : Nat} {x : Int32} {j : Nat} (h : itF who k a n x (j + 1) = itF who k a n x j) : ∀ m : Nat, itF who k a n x (j + m) = itF who k a n x j
  | 0 => rfl
  | m + 1 => by
    show swF who k a (itF who k a n x (j + m)) n = itF who k a n x j
    rw [it_stay h m]; exact h
theorem it_12 {who : Int} {k : Nat → Int} {a : Nat → Int32} {n : Nat} {x : Int32} (hn : n ≤ 12) : ∀ m : Nat, itF who k a n x (12 + m) = itF who k a n x 12 := by
  by_cases ex : ∃ j : Nat, j < 12 ∧ itF who k a n x (j + 1) = itF who k a n x j
  · obtain ⟨j, hj, e⟩ := ex
    intro m
    have e1 := it_stay e (12 - j)
    have e2 := it_stay e (12 - j + m)
    rw [show j + (12 - j) = 12 by omega] at e1
    rw [show j + (12 - j + m) = 12 + m by omega] at e2
    rw [e1, e2]
  · have up : ∀ j : Nat, j ≤ 12 → j ≤ cb12 (itF who k a n x j) 12 := by
      intro j
      induction j with
      | zero => intro _; exact Nat.zero_le _
      | succ j ih =>
        intro hj
        have i1 := ih (by omega)
        have ne : swF who k a (itF who k a n x j) n ≠ itF who k a n x j := fun q => ex ⟨j, by omega, q⟩
        obtain ⟨p, hp, h1, h2⟩ := sw_new hn ne
        have lt := cb12_lt (x := itF who k a n x j) (y := swF who k a (itF who k a n x j) n) (fun q hq => sw_mono hq hn) h1 h2 12 (by omega)
        show j + 1 ≤ cb12 (swF who k a (itF who k a n x j) n) 12
        omega
    have full := (cb12_n (itF who k a n x 12) 12).2 (by have := up 12 (Nat.le_refl 12); have := (cb12_n (itF who k a n x 12) 12).1; omega)
    have fx : itF who k a n x (12 + 1) = itF who k a n x 12 := by
      show swF who k a (itF who k a n x 12) n = itF who k a n x 12
      by_cases z : swF who k a (itF who k a n x 12) n = itF who k a n x 12
      · exact z
      · obtain ⟨p, hp, h1, -⟩ := sw_new hn z
        rw [full p (by omega)] at h1
        exact absurd h1 (by decide)
    exact it_stay fx
/-- where the one stops at twelve, the other one when nothing changes, both have the same -/
theorem fo_same {who : Int} {k q : Nat → Int} {a b : Nat → Int32} {n : Nat} {x r1 r2 : Int32} (hn : n ≤ 12) (e : ∀ p : Nat, p < n → k p = q p ∧ a p = b p) (h1 : ∃ j : Nat, r1 = itF who k a n x j ∧ (j = 12 ∨ (1 ≤ j ∧ itF who k a n x j = itF who k a n x (j - 1)))) (h2 : ∃ j : Nat, r2 = itF who q b n x j ∧ 1 ≤ j ∧ itF who q b n x j = itF who q b n x (j - 1)) : r1 = r2 := by
  have c := itF_congr (who := who) (x := x) e
  obtain ⟨i, e1, s1⟩ := h1
  obtain ⟨j, e2, j1, s2⟩ := h2
  rw [← c, ← c] at s2
  rw [← c] at e2
  have g2 : ∀ m : Nat, itF who k a n x (j - 1 + m) = itF who k a n x (j - 1) := it_stay (by rw [show j - 1 + 1 = j by omega]; exact s2)
  rw [e1, e2, s2]
  rcases s1 with s1 | ⟨i1, s1⟩
  · subst s1
    have a1 := it_12 (who := who) (k := k) (a := a) (x := x) hn (j - 1)
    have a2 := g2 12
    rw [show j - 1 + 12 = 12 + (j - 1) by omega] at a2
    rw [← a1, a2]
  · have g1 : ∀ m : Nat, itF who k a n x (i - 1 + m) = itF who k a n x (i - 1) := it_stay (by rw [show i - 1 + 1 = i by omega]; exact s1)
    have a1 := g1 (j - 1)
    have a2 := g2 (i - 1)
    rw [show j - 1 + (i - 1) = i - 1 + (j - 1) by omega] at a2
    rw [s1, ← a1, a2]
theorem it_next {who : Int} {k : Nat → Int} {a : Nat → Int32} {n m j j' : Nat} {x l3 l4 : Int32} (h : l3 = swF who k a l4 m) (h4 : l4 = itF who k a n x j) (hm : m = n) (hj : j' = j + 1) : l3 = itF who k a n x j' := by
  subst hm; subst hj; subst h4; exact h
theorem it_prev {who : Int} {k : Nat → Int} {a : Nat → Int32} {n j j' : Nat} {x l4 : Int32} (h4 : l4 = itF who k a n x j) (hj : j' = j) : l4 = itF who k a n x j' := by
  subst hj; exact h4
theorem swF_Y {who kk : Int} {k : Nat → Int} {a : Nat → Int32} {x y y' v aa : Int32} {p q : Nat} (e : y = swF who k a x p) (hb : q = p + 1) (ha : aa = a p) (hkk : kk = k p) (hk : fcC who kk aa y) (hv : v = bit1 p) (ht : y' = y ||| v) : y' = swF who k a x q := by
  subst ha; subst hkk; exact swF_y e hb hk hv ht
theorem swF_N {who kk : Int} {k : Nat → Int} {a : Nat → Int32} {x y y' aa : Int32} {p q : Nat} (e : y = swF who k a x p) (hb : q = p + 1) (ha : aa = a p) (hkk : kk = k p) (hk : ¬ fcC who kk aa y) (ht : y' = y) : y' = swF who k a x q := by
  subst ha; subst hkk; exact swF_n e hb hk ht
theorem swF_0 {who kk : Int} {k : Nat → Int} {a : Nat → Int32} {x y y' : Int32} {p q : Nat} (e : y = swF who k a x p) (hb : q = p + 1) (hkk : kk = k p) (h0 : kk = 0) (ht : y' = y) : y' = swF who k a x q := by
  subst hkk; exact swF_n e hb (fun z => z.1 h0) ht
theorem fo_exit2 {who : Int} {k : Nat → Int} {a : Nat → Int32} {n j : Nat} {x l3 l4 : Int32} (h3 : l3 = itF who k a n x j) (h4 : 1 ≤ j → l4 = itF who k a n x (j - 1)) (h0 : j = 0 → l4.toInt = -1) (hx : 0 ≤ x.toInt) (c : l3 = l4) : ∃ i : Nat, l3 = itF who k a n x i ∧ 1 ≤ i ∧ itF who k a n x i = itF who k a n x (i - 1) := by
  rcases Nat.eq_zero_or_pos j with z | z
  · have b := h0 z
    subst z
    have d : l3 = x := h3
    rw [← c, d] at b
    omega
  · exact ⟨j, h3, z, by rw [← h3, ← h4 z]; exact c⟩
theorem fo_exit {who : Int} {k : Nat → Int} {a : Nat → Int32} {n j : Nat} {x l3 l4 : Int32} (h3 : l3 = itF who k a n x j) (h4 : 1 ≤ j → l4 = itF who k a n x (j - 1)) (h0 : j = 0 → l4.toInt = -1) (hx : 0 ≤ x.toInt) (c : l3 = l4) : ∃ i : Nat, l3 = itF who k a n x i ∧ (i = 12 ∨ (1 ≤ i ∧ itF who k a n x i = itF who k a n x (i - 1))) := by
  obtain ⟨i, q1, q2, q3⟩ := fo_exit2 h3 h4 h0 hx c
  exact ⟨i, q1, Or.inr ⟨q2, q3⟩⟩
theorem fo_exit12 {who : Int} {k : Nat → Int} {a : Nat → Int32} {n j : Nat} {x l3 : Int32} (h3 : l3 = itF who k a n x j) (hj : j = 12) : ∃ i : Nat, l3 = itF who k a n x i ∧ (i = 12 ∨ (1 ≤ i ∧ itF who k a n x i = itF who k a n x (i - 1))) := ⟨j, h3, Or.inl hj⟩
theorem bit1_rng {n : Nat} (h : n ≤ 12) : 1 ≤ (bit1 n).toInt ∧ (bit1 n).toInt ≤ 4096 := by
  rcases (show n = 0 ∨ n = 1 ∨ n = 2 ∨ n = 3 ∨ n = 4 ∨ n = 5 ∨ n = 6 ∨ n = 7 ∨ n = 8 ∨ n = 9 ∨ n = 10 ∨ n = 11 ∨ n = 12 by omega) with rfl | rfl | rfl | rfl | rfl | rfl | rfl | rfl | rfl | rfl | rfl | rfl | rfl <;> decide
