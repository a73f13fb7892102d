/-! the reference's row of numbers -/
theorem tr_nat (x : Int32) : x.toNatClampNeg = x.toInt.toNat := rfl
/-- ranges, place by place -/
def GR (f : Nat → Int32) : Prop := (0 ≤ (f 0).toInt ∧ (f 0).toInt ≤ 12) ∧ (∀ k : Nat, k < 12 → (0 ≤ (f (1 + k)).toInt ∧ (f (1 + k)).toInt ≤ 3) ∧ (0 ≤ (f (13 + k)).toInt ∧ (f (13 + k)).toInt ≤ 9) ∧ (0 ≤ (f (25 + k)).toInt ∧ (f (25 + k)).toInt ≤ 3) ∧ (-1 ≤ (f (109 + k)).toInt ∧ (f (109 + k)).toInt ≤ 2)) ∧ ∀ j : Nat, j < 36 → (0 ≤ (f (37 + j)).toInt ∧ (f (37 + j)).toInt ≤ 11) ∧ (0 ≤ (f (73 + j)).toInt ∧ (f (73 + j)).toInt ≤ 3)
section GRs
variable {f : Nat → Int32} {x : Int32}
theorem gr_nodes (h : GR f) (hx : 0 ≤ x.toInt ∧ x.toInt ≤ 0) : 0 ≤ (f x.toNatClampNeg).toInt ∧ (f x.toNatClampNeg).toInt ≤ 12 := by
  have e : x.toNatClampNeg = 0 := by rw [tr_nat]; omega
  rw [e]; exact h.1
theorem gr_kind (h : GR f) (hx : 1 ≤ x.toInt ∧ x.toInt ≤ 12) : 0 ≤ (f x.toNatClampNeg).toInt ∧ (f x.toNatClampNeg).toInt ≤ 3 := by
  have e : x.toNatClampNeg = 1 + (x.toInt.toNat - 1) := by rw [tr_nat]; omega
  rw [e]; exact (h.2.1 _ (by omega)).1
theorem gr_pay (h : GR f) (hx : 13 ≤ x.toInt ∧ x.toInt ≤ 24) : 0 ≤ (f x.toNatClampNeg).toInt ∧ (f x.toNatClampNeg).toInt ≤ 9 := by
  have e : x.toNatClampNeg = 13 + (x.toInt.toNat - 13) := by rw [tr_nat]; omega
  rw [e]; exact (h.2.1 _ (by omega)).2.1
theorem gr_ways (h : GR f) (hx : 25 ≤ x.toInt ∧ x.toInt ≤ 36) : 0 ≤ (f x.toNatClampNeg).toInt ∧ (f x.toNatClampNeg).toInt ≤ 3 := by
  have e : x.toNatClampNeg = 25 + (x.toInt.toNat - 25) := by rw [tr_nat]; omega
  rw [e]; exact (h.2.1 _ (by omega)).2.2.1
theorem gr_held (h : GR f) (hx : 109 ≤ x.toInt ∧ x.toInt ≤ 120) : -1 ≤ (f x.toNatClampNeg).toInt ∧ (f x.toNatClampNeg).toInt ≤ 2 := by
  have e : x.toNatClampNeg = 109 + (x.toInt.toNat - 109) := by rw [tr_nat]; omega
  rw [e]; exact (h.2.1 _ (by omega)).2.2.2
theorem gr_to (h : GR f) (hx : 37 ≤ x.toInt ∧ x.toInt ≤ 72) : 0 ≤ (f x.toNatClampNeg).toInt ∧ (f x.toNatClampNeg).toInt ≤ 11 := by
  have e : x.toNatClampNeg = 37 + (x.toInt.toNat - 37) := by rw [tr_nat]; omega
  rw [e]; exact (h.2.2 _ (by omega)).1
theorem gr_heavy (h : GR f) (hx : 73 ≤ x.toInt ∧ x.toInt ≤ 108) : 0 ≤ (f x.toNatClampNeg).toInt ∧ (f x.toNatClampNeg).toInt ≤ 3 := by
  have e : x.toNatClampNeg = 73 + (x.toInt.toNat - 73) := by rw [tr_nat]; omega
  rw [e]; exact (h.2.2 _ (by omega)).2
end GRs
/-- the weights of a node's first ways, together -/
def gw (f : Nat → Int32) (k : Nat) : Nat → Int
  | 0 => 0
  | i + 1 => gw f k i + (f (73 + 3 * k + i)).toInt
/-- how many of the first nodes are of a kind -/
def gc (f : Nat → Int32) (d : Int) : Nat → Int
  | 0 => 0
  | n + 1 => gc f d n + (if (f (1 + n)).toInt = d then 1 else 0)
theorem gw_cong {f g : Nat → Int32} {k : Nat} : ∀ n : Nat, (∀ i : Nat, i < n → g (73 + 3 * k + i) = f (73 + 3 * k + i)) → gw g k n = gw f k n
  | 0, _ => rfl
  | n + 1, h => by
    show gw g k n + _ = gw f k n + _
    rw [gw_cong n (fun i hi => h i (by omega)), h n (by omega)]
theorem gc_cong {f g : Nat → Int32} {d : Int} : ∀ n : Nat, (∀ i : Nat, i < n → g (1 + i) = f (1 + i)) → gc g d n = gc f d n
  | 0, _ => rfl
  | n + 1, h => by
    show gc g d n + _ = gc f d n + _
    rw [gc_cong n (fun i hi => h i (by omega)), h n (by omega)]
theorem gc_nonneg (f : Nat → Int32) (d : Int) : ∀ n : Nat, 0 ≤ gc f d n ∧ gc f d n ≤ n
  | 0 => by simp [gc]
  | n + 1 => by
    have h := gc_nonneg f d n
    show 0 ≤ gc f d n + _ ∧ gc f d n + _ ≤ _
    split <;> omega
/-- a row while it is read -/
def GP (f : Nat → Int32) : Prop := GR f ∧ (∀ k : Nat, k < 12 → (f 0).toInt ≤ k → (f (1 + k)).toInt = 0 ∧ (f (25 + k)).toInt = 0) ∧ (∀ k : Nat, k < 12 → (f (1 + k)).toInt = 0 → (f (25 + k)).toInt = 0) ∧ (∀ k i : Nat, k < 12 → (i : Int) < (f (25 + k)).toInt → (f (37 + 3 * k + i)).toInt < (f 0).toInt ∧ 1 ≤ (f (73 + 3 * k + i)).toInt) ∧ (∀ k : Nat, k < 12 → (f (1 + k)).toInt = 3 → gw f k (f (25 + k)).toInt.toNat ≤ 4) ∧ (∀ k : Nat, k < 12 → ¬ (f (1 + k)).toInt = 0 → (f (109 + k)).toInt < (f (25 + k)).toInt) ∧ gc f 0 (f 0).toInt.toNat ≤ 4 ∧ (f 0).toInt - gc f 0 (f 0).toInt.toNat ≤ 8 ∧ gc f 3 (f 0).toInt.toNat ≤ 5
/-- a row that was read: every node that isn't an end has a way -/
def GS (f : Nat → Int32) : Prop := GP f ∧ ∀ k : Nat, k < 12 → ¬ (f (1 + k)).toInt = 0 → 1 ≤ (f (25 + k)).toInt
theorem GS.r {f : Nat → Int32} (h : GS f) : GR f := h.1.1
theorem gp_zero {f : Nat → Int32} (h : ∀ i : Nat, i < 193 → (i < 109 ∨ 121 ≤ i) → f i = 0) (hh : ∀ k : Nat, k < 12 → f (109 + k) = (-1) ∨ f (109 + k) = 0) : GP f := by
  have z : (0 : Int32).toInt = 0 := by decide
  have z1 : (-1 : Int32).toInt = -1 := by decide
  have e0 := h 0 (by omega) (by omega)
  have ek : ∀ k : Nat, k < 12 → f (1 + k) = 0 := fun k hk => h _ (by omega) (by omega)
  have ew : ∀ k : Nat, k < 12 → f (25 + k) = 0 := fun k hk => h _ (by omega) (by omega)
  refine ⟨⟨by rw [e0, z]; omega, fun k hk => ⟨by rw [ek k hk, z]; omega, by rw [h (13 + k) (by omega) (by omega), z]; omega, by rw [ew k hk, z]; omega, by rcases hh k hk with e | e <;> rw [e] <;> first | rw [z1]; omega | rw [z]; omega⟩, fun j hj => ⟨by rw [h (37 + j) (by omega) (by omega), z]; omega, by rw [h (73 + j) (by omega) (by omega), z]; omega⟩⟩, fun k hk _ => ⟨by rw [ek k hk, z], by rw [ew k hk, z]⟩, fun k hk _ => by rw [ew k hk, z], fun k i hk hi => ?_, fun k hk e => ?_, fun k hk e => ?_, ?_, ?_, ?_⟩
  · rw [ew k hk, z] at hi; omega
  · rw [ek k hk, z] at e; omega
  · rw [ek k hk, z] at e; omega
  · rw [e0, z]; simp [gc]
  · rw [e0, z]; simp [gc]
  · rw [e0, z]; simp [gc]
theorem gs_zero : GS (fun _ => 0) := ⟨gp_zero (fun _ _ _ => rfl) (fun _ _ => Or.inr rfl), fun k hk e => by simp at e⟩
theorem gp_cong {f g : Nat → Int32} (h : GP f) (h0 : g 0 = f 0) (hk : ∀ k : Nat, k < 12 → g (1 + k) = f (1 + k)) (hw : ∀ k : Nat, k < 12 → g (25 + k) = f (25 + k)) (ht : ∀ j : Nat, j < 36 → g (37 + j) = f (37 + j)) (hh : ∀ j : Nat, j < 36 → g (73 + j) = f (73 + j)) (hp : ∀ k : Nat, k < 12 → 0 ≤ (g (13 + k)).toInt ∧ (g (13 + k)).toInt ≤ 9) (hd : ∀ k : Nat, k < 12 → (-1 ≤ (g (109 + k)).toInt ∧ (g (109 + k)).toInt ≤ 2) ∧ (¬ (f (1 + k)).toInt = 0 → (g (109 + k)).toInt < (f (25 + k)).toInt)) : GP g := by
  obtain ⟨hR, a1, a2, a3, a4, a5, a6, a7, a8⟩ := h
  have n12 : (f 0).toInt.toNat ≤ 12 := by have := hR.1; omega
  have w3 : ∀ k : Nat, k < 12 → (f (25 + k)).toInt.toNat ≤ 3 := fun k q => by have := (hR.2.1 k q).2.2.1; omega
  have cc : ∀ d : Int, gc g d (f 0).toInt.toNat = gc f d (f 0).toInt.toNat := fun d => gc_cong _ (fun i hi => hk i (by omega))
  refine ⟨⟨by rw [h0]; exact hR.1, fun k q => ⟨by rw [hk k q]; exact (hR.2.1 k q).1, hp k q, by rw [hw k q]; exact (hR.2.1 k q).2.2.1, (hd k q).1⟩, fun j q => ⟨by rw [ht j q]; exact (hR.2.2 j q).1, by rw [hh j q]; exact (hR.2.2 j q).2⟩⟩, fun k q => by rw [h0, hk k q, hw k q]; exact a1 k q, fun k q => by rw [hk k q, hw k q]; exact a2 k q, fun k i q => ?_, fun k q => ?_, fun k q => by rw [hk k q, hw k q]; exact (hd k q).2, ?_, ?_, ?_⟩
  · rw [hw k q, h0]
    intro hi
    have := (hR.2.1 k q).2.2.1
    rw [show 37 + 3 * k + i = 37 + (3 * k + i) by omega, show 73 + 3 * k + i = 73 + (3 * k + i) by omega, ht _ (by omega), hh _ (by omega), ← Nat.add_assoc, ← Nat.add_assoc]
    exact a3 k i q hi
  · rw [hk k q, hw k q]
    intro e
    rw [gw_cong (f := f) _ (fun i hi => by rw [show 73 + 3 * k + i = 73 + (3 * k + i) by omega]; exact hh _ (by have := w3 k q; omega))]
    exact a4 k q e
  · rw [h0, cc]; exact a6
  · rw [h0, cc]; exact a7
  · rw [h0, cc]; exact a8
theorem upd_at (f : Nat → Int32) (k : Nat) (x : Int32) : upd f k x k = x := if_pos rfl
theorem upd_ne (f : Nat → Int32) {k j : Nat} (x : Int32) (h : j ≠ k) : upd f k x j = f j := if_neg h
theorem gs_held {f : Nat → Int32} (h : GS f) {a k : Nat} {x : Int32} (ha : a = 109 + k) (hk : k < 12) (hx : -1 ≤ x.toInt ∧ x.toInt ≤ 2) (hw : x.toInt < (f (25 + k)).toInt ∨ x.toInt = -1) : GS (upd f a x) := by
  subst ha
  have o : ∀ j : Nat, j ≠ 109 + k → upd f (109 + k) x j = f j := fun j hj => upd_ne f x hj
  have hR := h.r
  refine ⟨gp_cong h.1 (o _ (by omega)) (fun k q => o _ (by omega)) (fun k q => o _ (by omega)) (fun k q => o _ (by omega)) (fun k q => o _ (by omega)) (fun k q => by rw [o _ (by omega)]; exact (hR.2.1 k q).2.1) (fun j q => ?_), fun j q => by rw [o _ (by omega), o _ (by omega)]; exact h.2 j q⟩
  by_cases e : j = k
  · subst e
    rw [upd_at]
    refine ⟨hx, fun e => ?_⟩
    have := h.2 j q e
    omega
  · rw [o _ (by omega)]
    exact ⟨(hR.2.1 j q).2.2.2, h.1.2.2.2.2.2.1 j q⟩
theorem gs_pay {f : Nat → Int32} (h : GS f) {a k : Nat} {x : Int32} (ha : a = 13 + k) (hk : k < 12) (hx : 0 ≤ x.toInt ∧ x.toInt ≤ 9) : GS (upd f a x) := by
  subst ha
  have o : ∀ j : Nat, j ≠ 13 + k → upd f (13 + k) x j = f j := fun j hj => upd_ne f x hj
  have hR := h.r
  refine ⟨gp_cong h.1 (o _ (by omega)) (fun k q => o _ (by omega)) (fun k q => o _ (by omega)) (fun k q => o _ (by omega)) (fun k q => o _ (by omega)) (fun j q => ?_) (fun j q => by rw [o _ (by omega)]; exact ⟨(hR.2.1 j q).2.2.2, h.1.2.2.2.2.2.1 j q⟩), fun j q => by rw [o _ (by omega), o _ (by omega)]; exact h.2 j q⟩
  by_cases e : j = k
  · subst e; rw [upd_at]; exact hx
  · rw [o _ (by omega)]; exact (hR.2.1 j q).2.1
theorem gw_upd {f : Nat → Int32} {k i : Nat} {x : Int32} : ∀ n : Nat, gw (upd f (73 + 3 * k + i) x) k n = gw f k n + (if i < n then x.toInt - (f (73 + 3 * k + i)).toInt else 0)
  | 0 => by simp [gw]
  | n + 1 => by
    show gw _ k n + _ = gw f k n + _ + _
    rw [gw_upd n]
    by_cases e : n = i
    · subst e
      rw [upd_at, if_neg (by omega), if_pos (by omega)]
      omega
    · rw [upd_ne _ _ (by omega)]
      by_cases e1 : i < n
      · rw [if_pos e1, if_pos (by omega)]; omega
      · rw [if_neg e1, if_neg (by omega)]; omega
theorem gw_nonneg {f : Nat → Int32} {k : Nat} : ∀ n : Nat, (∀ i : Nat, i < n → 0 ≤ (f (73 + 3 * k + i)).toInt) → 0 ≤ gw f k n
  | 0, _ => by simp [gw]
  | n + 1, h => by
    have := gw_nonneg n (fun i hi => h i (by omega))
    have := h n (by omega)
    show 0 ≤ gw f k n + _
    omega
theorem gs_heavy {f : Nat → Int32} (h : GS f) {a k i : Nat} {x : Int32} (ha : a = 73 + 3 * k + i) (hk : k < 12) (hi : i < 3) (hx : 1 ≤ x.toInt ∧ x.toInt ≤ 3) (hs : (i : Int) < (f (25 + k)).toInt) (h4 : gw f k (f (25 + k)).toInt.toNat - (f (73 + 3 * k + i)).toInt + x.toInt ≤ 4) : GS (upd f a x) := by
  subst ha
  have o : ∀ j : Nat, j ≠ 73 + 3 * k + i → upd f (73 + 3 * k + i) x j = f j := fun j hj => upd_ne f x hj
  obtain ⟨⟨hR, a1, a2, a3, a4, a5, a6, a7, a8⟩, a9⟩ := h
  have n12 : (f 0).toInt.toNat ≤ 12 := by have := hR.1; omega
  have cc : ∀ d : Int, gc (upd f (73 + 3 * k + i) x) d (f 0).toInt.toNat = gc f d (f 0).toInt.toNat := fun d => gc_cong _ (fun j hj => o _ (by omega))
  refine ⟨⟨⟨by rw [o _ (by omega)]; exact hR.1, fun j q => ⟨by rw [o _ (by omega)]; exact (hR.2.1 j q).1, by rw [o _ (by omega)]; exact (hR.2.1 j q).2.1, by rw [o _ (by omega)]; exact (hR.2.1 j q).2.2.1, by rw [o _ (by omega)]; exact (hR.2.1 j q).2.2.2⟩, fun j q => ⟨by rw [o _ (by omega)]; exact (hR.2.2 j q).1, ?_⟩⟩, fun j q => by rw [o _ (by omega), o _ (by omega), o _ (by omega)]; exact a1 j q, fun j q => by rw [o _ (by omega), o _ (by omega)]; exact a2 j q, fun j b q => ?_, fun j q => ?_, fun j q => by rw [o _ (by omega), o _ (by omega), o _ (by omega)]; exact a5 j q, by rw [o _ (by omega), cc]; exact a6, by rw [o _ (by omega), cc]; exact a7, by rw [o _ (by omega), cc]; exact a8⟩, fun j q => by rw [o _ (by omega), o _ (by omega)]; exact a9 j q⟩
  · by_cases e : 73 + j = 73 + 3 * k + i
    · rw [e, upd_at]; omega
    · rw [o _ e]; exact (hR.2.2 j q).2
  · rw [o (25 + j) (by omega), o 0 (by omega)]
    intro hb
    have w3 := (hR.2.1 j q).2.2.1
    rw [o (37 + 3 * j + b) (by omega)]
    by_cases e : 73 + 3 * j + b = 73 + 3 * k + i
    · rw [e, upd_at]; exact ⟨(a3 j b q hb).1, by omega⟩
    · rw [o _ e]; exact a3 j b q hb
  · rw [o (1 + j) (by omega), o (25 + j) (by omega)]
    intro e
    by_cases q2 : j = k
    · subst q2
      rw [gw_upd, if_pos (by omega)]
      omega
    · rw [gw_cong (f := f) _ (fun b hb => o _ (by have := (hR.2.1 j q).2.2.1; omega))]
      exact a4 j q e
