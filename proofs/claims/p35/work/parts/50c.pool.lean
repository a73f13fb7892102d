/-! the reference's rows of rows: 12 rows of 13 longs -/
def tup (ct : Nat → Nat → Int64) (R J : Nat) (x : Int64) : Nat → Nat → Int64 := fun k => if k = R then vp_updL (ct R) J x else ct k
theorem tup_at (ct : Nat → Nat → Int64) (R J : Nat) (x : Int64) : tup ct R J x R J = x := by
  unfold tup vp_updL
  rw [if_pos rfl, if_pos rfl]
theorem tup_ne (ct : Nat → Nat → Int64) {R J i j : Nat} (x : Int64) (h : i ≠ R ∨ j ≠ J) : tup ct R J x i j = ct i j := by
  unfold tup
  by_cases e : i = R
  · subst e
    rw [if_pos rfl]
    unfold vp_updL
    rw [if_neg (by omega)]
  · rw [if_neg e]
theorem tup_cg {ct : Nat → Nat → Int64} {a a2 b b2 : Nat} {x : Int64} (h1 : a = a2) (h2 : b = b2) : tup ct a b x = tup ct a2 b2 x := by rw [h1, h2]
section TQ2
variable {p : Program} {l : Launch} {e : Env} {R : Room} {s : State} {m : MethodId} {args : Array Value} {below : List Frame} {meth : Method} {c : Code} {H H0 : Heap} {locs : List Loc} {cells slots : Nat} {Q : State → Prop} {pc : Nat} {ls : Array Slot} {rest : List Value} {cc : ByteArray} {D : va_G} {g : Nat → ClassId} {A : Nat → Prop} {rr : Nat → Nat} {WS : (Nat → Nat → Int64) → va_W} {ct : Nat → Nat → Int64}
theorem tq_ald12 (hx : p.tables.exec = Jvm.exec) (hb : c.code = cc) (hK : va_K D vwCl (TY g) s) (hP : va_P D vwCl (WS ct) H) (q0 : Nat) (hget : ∀ (ct : Nat → Nat → Int64) (i : Nat), i < 12 → (WS ct)[q0 + i]? = some (rr i, .inl (g 1, 13, .inr (.inl (ct i))))) {r j : Int32} (hr : vp_in r 12) (hj : vp_in j 13) (hdg : decode cc pc = .ok (.laload, 1))
    (kk : W p l e R s m args below meth c H locs cells slots Q (F0 m (pc + 1) ls (.long (ct r.toNatClampNeg j.toNatClampNeg) :: rest))) : W p l e R s m args below meth c H locs cells slots Q (F0 m pc ls (.int j :: .ref (rr r.toNatClampNeg) :: rest)) :=
  va_lald hx hb hK hP (q0 + r.toNatClampNeg) 1 (hget ct _ (tr_cl hr)) rfl hj hdg kk
theorem tq_ast12 (hx : p.tables.exec = Jvm.exec) (hb : c.code = cc) (hK : va_K D vwCl (TY g) s) (hP : va_P D vwCl (WS ct) H) (hD : va_D A (WS ct)) (hS : va_S A H0 H locs) (q0 : Nat) (hget : ∀ (ct : Nat → Nat → Int64) (i : Nat), i < 12 → (WS ct)[q0 + i]? = some (rr i, .inl (g 1, 13, .inr (.inl (ct i))))) (hset : ∀ (ct : Nat → Nat → Int64) (i : Nat) (f : Nat → Int64), i < 12 → (WS ct).set (q0 + i) (rr i, .inl (g 1, 13, .inr (.inl f))) = WS (fun k => if k = i then f else ct k)) {r j : Int32} {x : Int64} (hr : vp_in r 12) (hj : vp_in j 13) (hdg : decode cc pc = .ok (.lastore, 1))
    (kk : ∀ (ct1 : Nat → Nat → Int64), ct1 = tup ct r.toNatClampNeg j.toNatClampNeg x → ∀ (H1 : Heap) (locs1 : List Loc), va_P D vwCl (WS ct1) H1 → va_D A (WS ct1) → va_S A H0 H1 locs1 → W p l e R s m args below meth c H1 locs1 cells slots Q (F0 m (pc + 1) ls rest)) : W p l e R s m args below meth c H locs cells slots Q (F0 m pc ls (.long x :: .int j :: .ref (rr r.toNatClampNeg) :: rest)) := by
  refine va_last hx hb hK hP hD hS (q0 + r.toNatClampNeg) 1 (hget ct _ (tr_cl hr)) rfl hj hdg (fun H1 locs1 hP hD hS => ?_)
  rw [hset ct _ _ (tr_cl hr)] at hP hD
  exact kk _ rfl H1 locs1 hP hD hS
end TQ2
/-! longs -/
theorem tl_any (x : Int64) : -9223372036854775808 ≤ x.toInt ∧ x.toInt ≤ 9223372036854775807 := by
  have h1 := Int64.le_toInt x
  have h2 := Int64.toInt_le x
  have e1 : Int64.maxValue.toInt = 9223372036854775807 := by decide
  have e2 : Int64.minValue.toInt = -9223372036854775808 := by decide
  omega
theorem tl_bmod {z : Int} (h1 : -9223372036854775808 ≤ z) (h2 : z ≤ 9223372036854775807) : z.bmod 18446744073709551616 = z := by
  rw [Int.bmod_eq_of_le] <;> omega
theorem tl_add {x y : Int64} (h1 : -9223372036854775808 ≤ x.toInt + y.toInt) (h2 : x.toInt + y.toInt ≤ 9223372036854775807) : (x + y).toInt = x.toInt + y.toInt := by
  rw [Int64.toInt_add]; exact tl_bmod h1 h2
theorem tl_sub {x y : Int64} (h1 : -9223372036854775808 ≤ x.toInt - y.toInt) (h2 : x.toInt - y.toInt ≤ 9223372036854775807) : (x - y).toInt = x.toInt - y.toInt := by
  rw [Int64.toInt_sub]; exact tl_bmod h1 h2
theorem tl_mul {x y : Int64} (h1 : -9223372036854775808 ≤ x.toInt * y.toInt) (h2 : x.toInt * y.toInt ≤ 9223372036854775807) : (x * y).toInt = x.toInt * y.toInt := by
  rw [Int64.toInt_mul]; exact tl_bmod h1 h2
/-- a quotient that comes out even, by a number above 0 -/
theorem tl_div {x y : Int64} {q : Int} (h : x.toInt = q * y.toInt) (hy : ¬ y.toInt = 0) (h1 : -9223372036854775808 ≤ q) (h2 : q ≤ 9223372036854775807) : (x / y).toInt = q := by
  rw [Int64.toInt_div, h, Int.mul_tdiv_cancel _ hy]
  exact tl_bmod h1 h2
theorem tl_absmul {a b A B : Int} (h1 : -A ≤ a ∧ a ≤ A) (h2 : -B ≤ b ∧ b ≤ B) : -(A * B) ≤ a * b ∧ a * b ≤ A * B := by
  have hA : 0 ≤ A := by omega
  have hB : 0 ≤ B := by omega
  have e1 : 0 ≤ (A - a) * (B + b) := Int.mul_nonneg (by omega) (by omega)
  have e2 : 0 ≤ (A + a) * (B - b) := Int.mul_nonneg (by omega) (by omega)
  have e3 : 0 ≤ (A - a) * (B - b) := Int.mul_nonneg (by omega) (by omega)
  have e4 : 0 ≤ (A + a) * (B + b) := Int.mul_nonneg (by omega) (by omega)
  constructor <;> grind
theorem tl_step {u v w y b : Int64} {U V Wi Y B z : Int} (hu : u.toInt = U) (hv : v.toInt = V) (hw : w.toInt = Wi) (hy : y.toInt = Y) (hb : b.toInt = B) (bu : -3600000000 ≤ U ∧ U ≤ 3600000000) (bv : -400000000 ≤ V ∧ V ≤ 400000000) (bw : -400000000 ≤ Wi ∧ Wi ≤ 400000000) (by_ : -3600000000 ≤ Y ∧ Y ≤ 3600000000) (hB : 0 < B) (hz : z * B = U * V - Wi * Y) (bz : -3600000000 ≤ z ∧ z ≤ 3600000000) : ((u * v - w * y) / b).toInt = z := by
  subst hu hv hw hy hb
  have m1 := tl_absmul bu bv
  have m2 := tl_absmul bw by_
  have e1 := tl_mul (x := u) (y := v) (by omega) (by omega)
  have e2 := tl_mul (x := w) (y := y) (by omega) (by omega)
  have e3 := tl_sub (x := u * v) (y := w * y) (by omega) (by omega)
  exact tl_div (by rw [e3, e1, e2, hz]) (by omega) (by omega) (by omega)
/-- the rows as whole numbers -/
def tI (ct : Nat → Nat → Int64) : Nat → Nat → Int := fun i j => (ct i j).toInt
/-- the last column is bounded by the rows' sums -/
def LOK (n : Nat) (A : Nat → Nat → Int) : Prop := ∀ i, i < n → eA A i n ≤ 9 * pm_s n (eA A) (fun _ => 1) i ∧ -(9 * pm_s n (eA A) (fun _ => 1) i) ≤ eA A i n
def JOK (n : Nat) (A : Nat → Nat → Int) (j : Nat) : Prop := j < n ∨ (j = n ∧ LOK n A)
theorem JOK.le {n : Nat} {A : Nat → Nat → Int} {j : Nat} (h : JOK n A j) : j ≤ n := by rcases h with h | h <;> omega
theorem EH.jb {n : Nat} {A : Nat → Nat → Int} (h : EH n A) {c i j : Nat} (hc : c ≤ n) (hi : i < n) (hj : JOK n A j) : -3600000000 ≤ eX A c i j ∧ eX A c i j ≤ 3600000000 := by
  rcases hj with q | ⟨rfl, q⟩
  · have := h.bnd hc hi q; omega
  · exact h.last q hc hi
def SM (n : Nat) (A : Nat → Nat → Int) (c : Nat) (ct : Nat → Nat → Int64) : Prop := ∀ i j, i < n → JOK n A j → (ct i j).toInt = eX A c i j
def sX (A : Nat → Nat → Int) (c i j : Nat) : Int := if i = c ∨ j = c then eX A c i j else eX A (c + 1) i j
def SY (n : Nat) (A : Nat → Nat → Int) (c i : Nat) (j : Int) (ct : Nat → Nat → Int64) : Prop := ∀ i' j', i' < n → JOK n A j' → (ct i' j').toInt = if i' < i ∨ (i' = i ∧ j < (j' : Int)) then sX A c i' j' else eX A c i' j'
def SZ (n : Nat) (A : Nat → Nat → Int) (c i : Nat) (ct : Nat → Nat → Int64) : Prop := ∀ i' j', i' < n → JOK n A j' → (ct i' j').toInt = if i' < i then eX A (c + 1) i' j' else sX A c i' j'
section SO
variable {n c : Nat} {A : Nat → Nat → Int} {ct : Nat → Nat → Int64}
theorem SM_zero (ct : Nat → Nat → Int64) : SM n (tI ct) 0 ct := fun i j _ _ => (e_X0 (tI ct) i j).symm
theorem SM_piv (h : EH n A) (hS : SM n A c ct) (hc : c < n) : 0 < (ct c c).toInt := by
  rw [hS c c hc (Or.inl hc)]; exact h.ppos hc
theorem SY_start (h : SM n A c ct) {i : Nat} {j : Int} (hi : i = 0) (hj : (n : Int) ≤ j) : SY n A c i j ct := fun i' j' q1 q2 => by
  have := q2.le
  rw [if_neg (by omega)]; exact h i' j' q1 q2
theorem SY_row {i i2 : Nat} {j j2 : Int} (h : SY n A c i j ct) (hj : j < 0) (hi : i2 = i + 1) (hj2 : (n : Int) ≤ j2) : SY n A c i2 j2 ct := fun i' j' q1 q2 => by
  have := q2.le
  rw [h i' j' q1 q2]
  by_cases e : i' < i ∨ (i' = i ∧ j < (j' : Int))
  · rw [if_pos e, if_pos (by omega)]
  · rw [if_neg e, if_neg (by omega)]
theorem SY_skip {i : Nat} {j j2 : Int} (h : SY n A c i j ct) (hq : i = c ∨ j = (c : Int)) (hj : j2 = j - 1) : SY n A c i j2 ct := fun i' j' q1 q2 => by
  rw [h i' j' q1 q2]
  by_cases e : i' < i ∨ (i' = i ∧ j < (j' : Int))
  · rw [if_pos e, if_pos (by omega)]
  · rw [if_neg e]
    by_cases e2 : i' < i ∨ (i' = i ∧ j2 < (j' : Int))
    · rw [if_pos e2]
      unfold sX
      rw [if_pos (by omega)]
    · rw [if_neg e2]
theorem SY_put {i J : Nat} {j j2 : Int} {ct2 : Nat → Nat → Int64} {w : Int64} (h : SY n A c i j ct) (hJ : j = (J : Int)) (hct : ct2 = tup ct i J w) (hw : JOK n A J → w.toInt = eX A (c + 1) i J) (hi : i ≠ c) (hjc : J ≠ c) (hj : j2 = j - 1) : SY n A c i j2 ct2 := fun i' j' q1 q2 => by
  subst hct
  by_cases e0 : i' = i ∧ j' = J
  · obtain ⟨rfl, rfl⟩ := e0
    rw [tup_at, hw q2, if_pos (by omega)]
    unfold sX
    rw [if_neg (by omega)]
  · rw [tup_ne _ _ (by omega), h i' j' q1 q2]
    by_cases e : i' < i ∨ (i' = i ∧ j < (j' : Int))
    · rw [if_pos e, if_pos (by omega)]
    · rw [if_neg e, if_neg (by omega)]
theorem SY_at {i i' j' : Nat} {j : Int} (h : SY n A c i j ct) (q1 : i' < n) (q2 : JOK n A j') (hq : i' = c ∨ j' = c ∨ (i' = i ∧ (j' : Int) = j)) : (ct i' j').toInt = eX A c i' j' := by
  rw [h i' j' q1 q2]
  by_cases e : i' < i ∨ (i' = i ∧ j < (j' : Int))
  · rw [if_pos e]
    unfold sX
    rw [if_pos (by omega)]
  · rw [if_neg e]
theorem SY_val (h : EH n A) {i J : Nat} {j : Int} {b u v w y : Int64} (hS : SY n A c i j ct) (hJ : j = (J : Int)) (hb : b.toInt = eb A c) (hc : c < n) (hi : i < n) (hic : i ≠ c) (hu : u = ct i J) (hv : v = ct c c) (hw : w = ct i c) (hy : y = ct c J) (hj : JOK n A J) : ((u * v - w * y) / b).toInt = eX A (c + 1) i J := by
  have jc : JOK n A c := Or.inl hc
  exact tl_step (by rw [hu]; exact SY_at hS hi hj (by omega)) (by rw [hv]; exact SY_at hS hc jc (by omega)) (by rw [hw]; exact SY_at hS hi jc (by omega)) (by rw [hy]; exact SY_at hS hc hj (by omega)) hb (h.jb (by omega) hi hj) (h.bnd (by omega) hc hc) (h.bnd (by omega) hi hc) (h.jb (by omega) hc hj) (h.bpos (by omega)) (h.step hc hic J) (h.jb (by omega) hi hj)
theorem SZ_start {i : Nat} {j : Int} (h : SY n A c i j ct) (hi : n ≤ i) : SZ n A c 0 ct := fun i' j' q1 q2 => by
  rw [h i' j' q1 q2, if_pos (by omega), if_neg (by omega)]
theorem SZ_skip (hE : EH n A) {i i2 : Nat} (h : SZ n A c i ct) (hc : c < n) (hi : i = c) (hi2 : i2 = i + 1) : SZ n A c i2 ct := fun i' j' q1 q2 => by
  rw [h i' j' q1 q2]
  by_cases e : i' < i
  · rw [if_pos e, if_pos (by omega)]
  · rw [if_neg e]
    by_cases e2 : i' < i2
    · rw [if_pos e2]
      obtain rfl : i' = c := by omega
      unfold sX
      rw [if_pos (Or.inl rfl), hE.row hc]
    · rw [if_neg e2]
theorem SZ_one (hE : EH n A) {i i2 : Nat} {ct2 : Nat → Nat → Int64} {z : Int64} (h : SZ n A c i ct) (hc : c < n) (hi : c < i) (hin : i < n) (hi2 : i2 = i + 1) (hz : z.toInt = 0) (hct : ct2 = tup ct i c z) : SZ n A c i2 ct2 := fun i' j' q1 q2 => by
  subst hct
  by_cases e0 : i' = i ∧ j' = c
  · obtain ⟨rfl, rfl⟩ := e0
    rw [tup_at, hz, if_pos (by omega), hE.unit (by omega) i' j' (by omega), if_neg (by omega)]
  · rw [tup_ne _ _ (by omega), h i' j' q1 q2]
    by_cases e : i' < i
    · rw [if_pos e, if_pos (by omega)]
    · rw [if_neg e]
      by_cases e2 : i' < i2
      · rw [if_pos e2]
        unfold sX
        rw [if_neg (by omega)]
      · rw [if_neg e2]
theorem SZ_two (hE : EH n A) {i i2 : Nat} {ct2 ct3 : Nat → Nat → Int64} {z v : Int64} (h : SZ n A c i ct) (hc : c < n) (hi : i < c) (hi2 : i2 = i + 1) (hz : z.toInt = 0) (hct : ct2 = tup ct i c z) (hv : v = ct2 c c) (hct3 : ct3 = tup ct2 i i v) : SZ n A c i2 ct3 := fun i' j' q1 q2 => by
  have jc : JOK n A c := Or.inl hc
  have ev : v.toInt = eb A (c + 1) := by
    rw [hv, hct, tup_ne _ _ (by omega), h c c hc jc, if_neg (by omega), e_bS]
    unfold sX
    rw [if_pos (Or.inl rfl)]
  subst hct3
  by_cases e1 : i' = i ∧ j' = i
  · obtain ⟨rfl, rfl⟩ := e1
    rw [tup_at, ev, if_pos (by omega), hE.unit (by omega) j' j' (by omega), if_pos rfl]
  · rw [tup_ne _ _ (by omega), hct]
    by_cases e0 : i' = i ∧ j' = c
    · obtain ⟨rfl, rfl⟩ := e0
      rw [tup_at, hz, if_pos (by omega), hE.unit (by omega) i' j' (by omega), if_neg (by omega)]
    · rw [tup_ne _ _ (by omega), h i' j' q1 q2]
      by_cases e : i' < i
      · rw [if_pos e, if_pos (by omega)]
      · rw [if_neg e]
        by_cases e2 : i' < i2
        · rw [if_pos e2]
          unfold sX
          rw [if_neg (by omega)]
        · rw [if_neg e2]
theorem SZ_end {i c2 : Nat} (h : SZ n A c i ct) (hi : n ≤ i) (hc2 : c2 = c + 1) : SM n A c2 ct := fun i' j' q1 q2 => by
  subst hc2
  rw [h i' j' q1 q2, if_pos (by omega)]
theorem SZ_piv (hE : EH n A) {i c2 : Nat} (h : SZ n A c i ct) (hi : n ≤ i) (hc : c < n) {v : Int64} (hv : v = ct c c) (hc2 : c2 = c + 1) : v.toInt = eb A c2 := by
  subst hc2
  rw [hv, h c c hc (Or.inl hc), if_pos (by omega), e_bS, hE.row hc]
end SO
theorem tl_cmp0 {w : Int64} (h : lg_cmp w 0 = 0) : w.toInt = 0 := by
  have h1 := Int64.le_iff_toInt_le.mp ((lg_cmp_ge w 0).mp (by rw [h]; decide))
  have h2 := Int64.le_iff_toInt_le.mp ((lg_cmp_le w 0).mp (by rw [h]; decide))
  have z : (0 : Int64).toInt = 0 := by decide
  omega
theorem tl_nz {b : Int64} {B : Int} (h : b.toInt = B) (hB : 0 < B) : ¬ b = 0 := fun e => by
  rw [e] at h
  have z : (0 : Int64).toInt = 0 := by decide
  omega
theorem tl_nz0 {b : Int64} (h : ¬ b = 0) : ¬ b.toInt = 0 := fun e => h (Int64.toInt_inj.mp (e.trans (by decide)))
/-! the common divisor -/
def GD (a b x y : Int) : Prop := (∀ d : Int, d ∣ x → d ∣ y → d ∣ a ∧ d ∣ b) ∧ ¬ (x = 0 ∧ y = 0) ∧ (0 ≤ a → 0 ≤ x ∧ 0 ≤ y)
theorem GD_start {a b : Int} (hb : 0 < b) : GD a b a b := ⟨fun _ h1 h2 => ⟨h1, h2⟩, fun h => by omega, fun h => ⟨h, by omega⟩⟩
theorem tl_tmod (a : Int) {b : Int} (h : ¬ b = 0) : (a.tmod b).natAbs < b.natAbs := by
  rw [Int.natAbs_tmod]
  exact Nat.mod_lt _ (Int.natAbs_pos.mpr h)
theorem tl_rem {x y z : Int64} (hz : z = x - x / y * y) (hy : ¬ y = 0) : ∃ q : Int, x.toInt = q * y.toInt + z.toInt ∧ z.toInt.natAbs < y.toInt.natAbs ∧ (0 ≤ x.toInt → 0 ≤ z.toInt) := by
  have hy0 := tl_nz0 hy
  have bx := tl_any x
  have b_y := tl_any y
  have h1 : z.toInt = x.toInt.tmod y.toInt := by
    rw [hz, Int64.toInt_sub, Int64.toInt_mul, Int64.toInt_div]
    have e := Int.tmod_add_mul_tdiv x.toInt y.toInt
    have m1 := tl_tmod x.toInt hy0
    have e2 : x.toInt - x.toInt.tdiv y.toInt * y.toInt = x.toInt.tmod y.toInt := by grind
    rw [← e2]
    simp only [Int.sub_bmod_bmod, Int.bmod_mul_bmod]
    rw [e2]
    exact tl_bmod (by omega) (by omega)
  refine ⟨x.toInt.tdiv y.toInt, ?_, ?_, ?_⟩
  · rw [h1]
    have e := Int.tmod_add_mul_tdiv x.toInt y.toInt
    grind
  · rw [h1]; exact tl_tmod x.toInt hy0
  · intro h; rw [h1]; exact Int.tmod_nonneg _ h
theorem GD_next {a b : Int} {x y z : Int64} (h : GD a b x.toInt y.toInt) (hz : z = x - x / y * y) (hy : ¬ y = 0) : GD a b y.toInt z.toInt := by
  obtain ⟨q, e, -, hn⟩ := tl_rem hz hy
  refine ⟨fun d h1 h2 => h.1 d ?_ h1, fun h1 => tl_nz0 hy h1.1, fun ha => ⟨(h.2.2 ha).2, hn (h.2.2 ha).1⟩⟩
  rw [e]
  exact Int.dvd_add (Int.dvd_mul_of_dvd_right h1) h2
theorem GD_end {a b x y : Int} (h : GD a b x y) (hy : y = 0) : ¬ x = 0 ∧ x ∣ a ∧ x ∣ b ∧ (0 ≤ a → 0 < x) := by
  subst hy
  have h0 : ¬ x = 0 := fun e => h.2.1 ⟨e, rfl⟩
  obtain ⟨h1, h2⟩ := h.1 x (Int.dvd_refl x) (Int.dvd_zero x)
  exact ⟨h0, h1, h2, fun ha => by have := (h.2.2 ha).1; omega⟩
