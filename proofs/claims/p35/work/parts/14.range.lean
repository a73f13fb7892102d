/-! ranges of numbers -/
theorem tr_w {x : Int32} {a b lo hi : Int} (h : a ≤ x.toInt ∧ x.toInt ≤ b) (h1 : lo ≤ a) (h2 : b ≤ hi) : lo ≤ x.toInt ∧ x.toInt ≤ hi := by omega
theorem tr_wa {f : Nat → Int32} {a b lo hi : Int} (h : ∀ j : Nat, a ≤ (f j).toInt ∧ (f j).toInt ≤ b) (h1 : lo ≤ a) (h2 : b ≤ hi) : ∀ j : Nat, lo ≤ (f j).toInt ∧ (f j).toInt ≤ hi := fun j => tr_w (h j) h1 h2
theorem tr_any (x : Int32) : -2147483648 ≤ x.toInt ∧ x.toInt ≤ 2147483647 := by
  have h1 := Int32.le_toInt x
  have h2 := Int32.toInt_le x
  have e1 : Int32.maxValue.toInt = 2147483647 := by decide
  have e2 : Int32.minValue.toInt = -2147483648 := by decide
  omega
theorem tr_bmod {z : Int} (h1 : -2147483648 ≤ z) (h2 : z ≤ 2147483647) : z.bmod 4294967296 = z := by
  rw [Int.bmod_eq_of_le] <;> omega
theorem tr_addE {x y : Int32} {a b c : Int} (hx : a ≤ x.toInt ∧ x.toInt ≤ b) (hy : c ≤ y.toInt ∧ y.toInt ≤ c) (h1 : -2147483648 ≤ a + c) (h2 : b + c ≤ 2147483647) : (x + y).toInt = x.toInt + c := by
  rw [Int32.toInt_add]
  have e : y.toInt = c := by omega
  rw [e]
  exact tr_bmod (by omega) (by omega)
theorem tr_add {x y : Int32} {a b c d lo hi : Int} (hx : a ≤ x.toInt ∧ x.toInt ≤ b) (hy : c ≤ y.toInt ∧ y.toInt ≤ d) (h1 : -2147483648 ≤ a + c) (h2 : b + d ≤ 2147483647) (h3 : lo ≤ a + c) (h4 : b + d ≤ hi) : lo ≤ (x + y).toInt ∧ (x + y).toInt ≤ hi := by
  have e : (x + y).toInt = x.toInt + y.toInt := by
    rw [Int32.toInt_add]
    exact tr_bmod (by omega) (by omega)
  rw [e]
  omega
theorem tr_sub {x y : Int32} {a b c d lo hi : Int} (hx : a ≤ x.toInt ∧ x.toInt ≤ b) (hy : c ≤ y.toInt ∧ y.toInt ≤ d) (h1 : -2147483648 ≤ a - d) (h2 : b - c ≤ 2147483647) (h3 : lo ≤ a - d) (h4 : b - c ≤ hi) : lo ≤ (x - y).toInt ∧ (x - y).toInt ≤ hi := by
  have e : (x - y).toInt = x.toInt - y.toInt := by
    rw [Int32.toInt_sub]
    exact tr_bmod (by omega) (by omega)
  rw [e]
  omega
theorem tr_subE {x y : Int32} {a b c : Int} (hx : a ≤ x.toInt ∧ x.toInt ≤ b) (hy : c ≤ y.toInt ∧ y.toInt ≤ c) (h1 : -2147483648 ≤ a - c) (h2 : b - c ≤ 2147483647) : (x - y).toInt = x.toInt - c := by
  rw [Int32.toInt_sub]
  have e : y.toInt = c := by omega
  rw [e]
  exact tr_bmod (by omega) (by omega)
theorem tr_mul {x y : Int32} {a b c d lo hi : Int} (hx : a ≤ x.toInt ∧ x.toInt ≤ b) (hy : c ≤ y.toInt ∧ y.toInt ≤ d) (h1 : 0 ≤ a ∧ 0 ≤ c) (h2 : b * d ≤ 2147483647) (h3 : lo ≤ a * c) (h4 : b * d ≤ hi) : lo ≤ (x * y).toInt ∧ (x * y).toInt ≤ hi := by
  have m1 : a * c ≤ x.toInt * y.toInt := Int.mul_le_mul hx.1 hy.1 h1.2 (by omega)
  have m2 : x.toInt * y.toInt ≤ b * d := Int.mul_le_mul hx.2 hy.2 (by omega) (by omega)
  have m0 : 0 ≤ a * c := Int.mul_nonneg h1.1 h1.2
  have e : (x * y).toInt = x.toInt * y.toInt := by
    rw [Int32.toInt_mul]
    exact tr_bmod (by omega) (by omega)
  rw [e]
  omega
theorem tr_in {x : Int32} {a b : Int} {n : Nat} (h : a ≤ x.toInt ∧ x.toInt ≤ b) (h0 : 0 ≤ a) (h1 : b < (n : Int)) : vp_in x n := vp_in_iff.mpr ⟨by omega, by omega⟩
theorem tr_upd {f : Nat → Int32} {k : Nat} {x : Int32} {lo hi : Int} (h : ∀ j : Nat, lo ≤ (f j).toInt ∧ (f j).toInt ≤ hi) (hx : lo ≤ x.toInt ∧ x.toInt ≤ hi) : ∀ j : Nat, lo ≤ (upd f k x j).toInt ∧ (upd f k x j).toInt ≤ hi := by
  intro j
  show lo ≤ (if j = k then x else f j).toInt ∧ (if j = k then x else f j).toInt ≤ hi
  split
  · exact hx
  · exact h j
theorem tr_cpy {f h : Nat → Int32} {sp dp n : Nat} {lo hi : Int} (hf : ∀ j : Nat, lo ≤ (f j).toInt ∧ (f j).toInt ≤ hi) (hh : ∀ j : Nat, lo ≤ (h j).toInt ∧ (h j).toInt ≤ hi) : ∀ j : Nat, lo ≤ (va_cpy f h sp dp n j).toInt ∧ (va_cpy f h sp dp n j).toInt ≤ hi := by
  intro j
  unfold va_cpy
  split
  · exact hf _
  · exact hh _
theorem tr_nz {x : Int32} {a b : Int} (h : a ≤ x.toInt ∧ x.toInt ≤ b) (h0 : 0 < a ∨ b < 0) : ¬ x = 0 := fun e => by
  rw [e] at h
  have : (0 : Int32).toInt = 0 := by decide
  omega
theorem tr_cmp (x y : Int64) : -1 ≤ (lg_cmp x y).toInt ∧ (lg_cmp x y).toInt ≤ 1 := by
  unfold lg_cmp
  split
  · decide
  · split <;> decide
theorem tr_cmp0 {x : Int64} (h : ¬ lg_cmp x 0 = 0) : ¬ x = 0 := fun e => h (by rw [e]; decide)
theorem tr_cmp1 {x : Int64} (h : 0 ≤ lg_cmp x 1) : ¬ x = 0 := fun e => absurd h (by rw [e]; decide)
theorem tr_z {x : Int32} (h : 0 ≤ x.toInt ∧ x.toInt ≤ 1) : narrow .boolean (.int x) = .int x := by
  have e : x = 0 ∨ x = 1 := by
    rcases (show x.toInt = 0 ∨ x.toInt = 1 by omega) with q | q
    · exact Or.inl (Int32.toInt_inj.mp (q.trans (by decide)))
    · exact Or.inr (Int32.toInt_inj.mp (q.trans (by decide)))
  rcases e with rfl | rfl <;> decide
