theorem tr_ofn {x : Int32} (h : 0 ≤ x.toInt) : x.toBitVec.toNat = x.toInt.toNat ∧ x.toBitVec.toNat < 2147483648 := by
  have e : x.toInt = x.toBitVec.toInt := rfl
  have q := BitVec.toInt_eq_toNat_cond x.toBitVec
  rw [← e] at q
  have := x.toBitVec.isLt
  split at q <;> omega
theorem tr_ofb {x : Int32} (h : x.toBitVec.toNat < 2147483648) : x.toInt = (x.toBitVec.toNat : Int) := by
  have e : x.toInt = x.toBitVec.toInt := rfl
  rw [e, BitVec.toInt_eq_toNat_cond]
  split <;> omega
theorem tr_orN {x y : Int32} (hx : 0 ≤ x.toInt ∧ x.toInt ≤ 4095) (hy : 0 ≤ y.toInt ∧ y.toInt ≤ 4095) : (x ||| y).toInt = ((x.toInt.toNat ||| y.toInt.toNat : Nat) : Int) ∧ (x.toInt.toNat ||| y.toInt.toNat) < 4096 := by
  have h1 := tr_ofn hx.1
  have h2 := tr_ofn hy.1
  have e : (x ||| y).toBitVec.toNat = x.toBitVec.toNat ||| y.toBitVec.toNat := BitVec.toNat_or ..
  have l : x.toInt.toNat ||| y.toInt.toNat < 2 ^ 12 := Nat.or_lt_two_pow (by omega) (by omega)
  have e2 : (x ||| y).toBitVec.toNat = x.toInt.toNat ||| y.toInt.toNat := by rw [e, h1.1, h2.1]
  refine ⟨?_, by omega⟩
  rw [tr_ofb (by rw [e2]; omega), e2]
theorem tr_or12 {x y : Int32} (hx : 0 ≤ x.toInt ∧ x.toInt ≤ 4095) (hy : 0 ≤ y.toInt ∧ y.toInt ≤ 4095) : (0 ≤ (x ||| y).toInt ∧ (x ||| y).toInt ≤ 4095) ∧ x.toInt ≤ (x ||| y).toInt := by
  have h := tr_orN (x := x) (y := y) hx hy
  have l : x.toInt.toNat ≤ x.toInt.toNat ||| y.toInt.toNat := Nat.left_le_or
  have := h.2
  rw [h.1]
  omega
theorem tr_shl (k : Nat) (hk : k < 12) : ((1 : Int32) <<< (Int32.ofNat k &&& 31)).toInt = ((2 ^ k : Nat) : Int) := by
  rcases (show k = 0 ∨ k = 1 ∨ k = 2 ∨ k = 3 ∨ k = 4 ∨ k = 5 ∨ k = 6 ∨ k = 7 ∨ k = 8 ∨ k = 9 ∨ k = 10 ∨ k = 11 by omega) with rfl | rfl | rfl | rfl | rfl | rfl | rfl | rfl | rfl | rfl | rfl | rfl <;> decide +kernel
theorem tr_ofNat {x : Int32} (h : 0 ≤ x.toInt ∧ x.toInt ≤ 4095) : x = Int32.ofNat x.toInt.toNat := by
  apply Int32.toInt_inj.mp
  rw [Int32.toInt_ofNat_of_lt (by omega)]
  omega
theorem tr_shl1 {k : Int32} (h : 0 ≤ k.toInt ∧ k.toInt ≤ 11) : ((1 : Int32) <<< (k &&& 31)).toInt = ((2 ^ k.toInt.toNat : Nat) : Int) := by
  have e := tr_ofNat (x := k) (by omega)
  have h2 := tr_shl k.toInt.toNat (by omega)
  rwa [← e] at h2
theorem tr_pow12 {k : Nat} (h : k < 12) : 1 ≤ 2 ^ k ∧ 2 ^ k ≤ 2048 := by
  rcases (show k = 0 ∨ k = 1 ∨ k = 2 ∨ k = 3 ∨ k = 4 ∨ k = 5 ∨ k = 6 ∨ k = 7 ∨ k = 8 ∨ k = 9 ∨ k = 10 ∨ k = 11 by omega) with rfl | rfl | rfl | rfl | rfl | rfl | rfl | rfl | rfl | rfl | rfl | rfl <;> decide
theorem tr_shl12 {k : Int32} (h : 0 ≤ k.toInt ∧ k.toInt ≤ 11) : 0 ≤ ((1 : Int32) <<< (k &&& 31)).toInt ∧ ((1 : Int32) <<< (k &&& 31)).toInt ≤ 4095 := by
  rw [tr_shl1 h]
  have := tr_pow12 (k := k.toInt.toNat) (by omega)
  omega
/-- a set of places as a number: whether a place is in it -/
def bt (x : Int32) (k : Nat) : Prop := x.toInt.toNat.testBit k = true
theorem bt_zero (k : Nat) : ¬ bt 0 k := by
  unfold bt
  rw [show (0 : Int32).toInt.toNat = 0 by decide]
  simp
theorem bt_or {x y : Int32} (hx : 0 ≤ x.toInt ∧ x.toInt ≤ 4095) (hy : 0 ≤ y.toInt ∧ y.toInt ≤ 4095) (k : Nat) : bt (x ||| y) k ↔ bt x k ∨ bt y k := by
  have h := tr_orN (x := x) (y := y) hx hy
  unfold bt
  rw [h.1, Int.toNat_natCast, Nat.testBit_or]
  simp
theorem bt_shl {j : Int32} (h : 0 ≤ j.toInt ∧ j.toInt ≤ 11) (k : Nat) : bt ((1 : Int32) <<< (j &&& 31)) k ↔ k = j.toInt.toNat := by
  unfold bt
  rw [tr_shl1 h, Int.toNat_natCast, Nat.testBit_two_pow]
  constructor
  · intro q; exact (of_decide_eq_true q).symm
  · intro q; exact decide_eq_true q.symm
theorem tr_andN {x y : Int32} (hx : 0 ≤ x.toInt) (hy : 0 ≤ y.toInt) : (x &&& y).toInt = ((x.toInt.toNat &&& y.toInt.toNat : Nat) : Int) := by
  have h1 := tr_ofn hx
  have h2 := tr_ofn hy
  have e : (x &&& y).toBitVec.toNat = x.toBitVec.toNat &&& y.toBitVec.toNat := BitVec.toNat_and ..
  have l : x.toBitVec.toNat &&& y.toBitVec.toNat ≤ x.toBitVec.toNat := Nat.and_le_left
  rw [tr_ofb (by rw [e]; omega), e, h1.1, h2.1]
theorem bt_and {x y : Int32} (hx : 0 ≤ x.toInt) (hy : 0 ≤ y.toInt) (k : Nat) : bt (x &&& y) k ↔ bt x k ∧ bt y k := by
  unfold bt
  rw [tr_andN hx hy, Int.toNat_natCast, Nat.testBit_and]
  simp
theorem bt_ne {x : Int32} (h : 0 ≤ x.toInt) : ¬ x = 0 ↔ ∃ k, bt x k := by
  constructor
  · intro e
    have q : x.toInt.toNat ≠ 0 := fun z => e (Int32.toInt_inj.mp (show x.toInt = 0 by omega))
    obtain ⟨k, hk⟩ := Nat.exists_testBit_of_ne_zero q
    exact ⟨k, hk⟩
  · rintro ⟨k, hk⟩ rfl
    exact bt_zero k hk
theorem bt_lt {x : Int32} (h : 0 ≤ x.toInt ∧ x.toInt ≤ 4095) {k : Nat} (hk : bt x k) : k < 12 := by
  apply Nat.lt_of_not_le
  intro q
  unfold bt at hk
  have l : x.toInt.toNat < 2 ^ k := Nat.lt_of_lt_of_le (by omega : x.toInt.toNat < 2 ^ 12) (Nat.pow_le_pow_right (by omega) q)
  rw [Nat.testBit_lt_two_pow l] at hk
  exact absurd hk (by decide)
theorem tr_shr {x s : Int32} {k : Nat} (h : (s.toBitVec.smod 32).toNat = k) : (x >>> s).toInt = x.toInt >>> k := by
  have e : (x >>> s).toInt = (x.toBitVec.sshiftRight' (s.toBitVec.smod 32)).toInt := rfl
  rw [e, BitVec.sshiftRight', BitVec.toInt_sshiftRight, h]
  rfl
/-- what bitOf tells -/
theorem tr_bit {x k : Int32} (hx : 0 ≤ x.toInt ∧ x.toInt ≤ 4095) (hk : 0 ≤ k.toInt ∧ k.toInt ≤ 11) : ((x >>> (k &&& 31)) &&& 1 = 1) ↔ bt x k.toInt.toNat := by
  have e := tr_ofNat (x := k) (by omega)
  obtain ⟨m, hm⟩ : ∃ m, m = k.toInt.toNat := ⟨_, rfl⟩
  have hl : m < 12 := by omega
  rw [← hm] at e ⊢
  have h1 : ((k &&& 31 : Int32).toBitVec.smod 32).toNat = m := by
    rw [e]
    rcases (show m = 0 ∨ m = 1 ∨ m = 2 ∨ m = 3 ∨ m = 4 ∨ m = 5 ∨ m = 6 ∨ m = 7 ∨ m = 8 ∨ m = 9 ∨ m = 10 ∨ m = 11 by omega) with rfl | rfl | rfl | rfl | rfl | rfl | rfl | rfl | rfl | rfl | rfl | rfl <;> decide
  have h2 := tr_shr (x := x) h1
  obtain ⟨n, hn⟩ : ∃ n : Nat, x.toInt = (n : Int) := ⟨x.toInt.toNat, by omega⟩
  have h3 : (x >>> (k &&& 31)).toInt = ((n / 2 ^ m : Nat) : Int) := by
    rw [h2, hn, Int.shiftRight_eq_div_pow]
    norm_cast
  have h4 := tr_andN (x := x >>> (k &&& 31)) (y := 1) (by rw [h3]; exact Int.natCast_nonneg _) (by decide)
  rw [h3, Int.toNat_natCast, show (1 : Int32).toInt.toNat = 1 by decide, Nat.and_one_is_mod] at h4
  unfold bt
  rw [hn, Int.toNat_natCast, Nat.testBit_eq_decide_div_mod_eq]
  constructor
  · intro q
    rw [q] at h4
    have z : (1 : Int32).toInt = 1 := by decide
    rw [z] at h4
    exact decide_eq_true (by omega)
  · intro q
    have q := of_decide_eq_true q
    apply Int32.toInt_inj.mp
    rw [h4, q]
    decide
