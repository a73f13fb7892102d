/-! what feed lays on a tape -/
def by8 (v : Int32) (k : Nat) : Int := if k = 0 then v.toInt / 16777216 % 256 else if k = 1 then v.toInt / 65536 % 256 else if k = 2 then v.toInt / 256 % 256 else v.toInt % 256
def AP4 (f o : Nat → Int32) (n : Nat) (v : Int32) : Prop := (∀ j : Nat, j < n → o j = f j) ∧ ∀ k : Nat, k < 4 → (o (n + k)).toInt % 256 = by8 v k
def fdb (a b c d e : Int32) (i : Nat) : Int := if i < 4 then by8 a i else if i < 8 then by8 b (i - 4) else if i < 12 then by8 c (i - 8) else if i < 16 then by8 d (i - 12) else by8 e (i - 16)
def AP20 (f o : Nat → Int32) (n : Nat) (a b c d e : Int32) : Prop := (∀ j : Nat, j < n → o j = f j) ∧ ∀ i : Nat, i < 20 → (o (n + i)).toInt % 256 = fdb a b c d e i
theorem ap4_of {f o : Nat → Int32} {i0 i1 i2 i3 n : Nat} {a b c d v : Int32} (ho : o = upd (upd (upd (upd f i0 a) i1 b) i2 c) i3 d) (h0 : i0 = n) (h1 : i1 = n + 1) (h2 : i2 = n + 2) (h3 : i3 = n + 3) (ha : a.toInt % 256 = v.toInt / 16777216 % 256) (hb : b.toInt % 256 = v.toInt / 65536 % 256) (hc : c.toInt % 256 = v.toInt / 256 % 256) (hd : d.toInt % 256 = v.toInt % 256) : AP4 f o n v := by
  subst h0; subst h1; subst h2; subst h3
  refine ⟨fun j hj => ?_, fun k hk => ?_⟩
  · rw [ho, upd_ne _ _ (by omega), upd_ne _ _ (by omega), upd_ne _ _ (by omega), upd_ne _ _ (by omega)]
  · rcases (show k = 0 ∨ k = 1 ∨ k = 2 ∨ k = 3 by omega) with q | q | q | q <;> subst q
    · rw [ho, upd_ne _ _ (by omega), upd_ne _ _ (by omega), upd_ne _ _ (by omega), Nat.add_zero, upd_at]; exact ha
    · rw [ho, upd_ne _ _ (by omega), upd_ne _ _ (by omega), upd_at]; exact hb
    · rw [ho, upd_ne _ _ (by omega), upd_at]; exact hc
    · rw [ho, upd_at]; exact hd
theorem ap20_of {f o1 o2 o3 o4 o : Nat → Int32} {n n1 n2 n3 n4 : Nat} {a b c d e : Int32} (p1 : AP4 f o1 n a) (p2 : AP4 o1 o2 n1 b) (p3 : AP4 o2 o3 n2 c) (p4 : AP4 o3 o4 n3 d) (p5 : AP4 o4 o n4 e) (h1 : n1 = n + 4) (h2 : n2 = n + 8) (h3 : n3 = n + 12) (h4 : n4 = n + 16) : AP20 f o n a b c d e := by
  subst h1; subst h2; subst h3; subst h4
  refine ⟨fun j hj => ?_, fun i hi => ?_⟩
  · rw [p5.1 j (by omega), p4.1 j (by omega), p3.1 j (by omega), p2.1 j (by omega), p1.1 j hj]
  · unfold fdb
    by_cases q1 : i < 4
    · rw [if_pos q1, p5.1 _ (by omega), p4.1 _ (by omega), p3.1 _ (by omega), p2.1 _ (by omega)]; exact p1.2 i q1
    · rw [if_neg q1]
      by_cases q2 : i < 8
      · rw [if_pos q2, p5.1 _ (by omega), p4.1 _ (by omega), p3.1 _ (by omega), show n + i = n + 4 + (i - 4) by omega]; exact p2.2 _ (by omega)
      · rw [if_neg q2]
        by_cases q3 : i < 12
        · rw [if_pos q3, p5.1 _ (by omega), p4.1 _ (by omega), show n + i = n + 8 + (i - 8) by omega]; exact p3.2 _ (by omega)
        · rw [if_neg q3]
          by_cases q4 : i < 16
          · rw [if_pos q4, p5.1 _ (by omega), show n + i = n + 12 + (i - 12) by omega]; exact p4.2 _ (by omega)
          · rw [if_neg q4, show n + i = n + 16 + (i - 16) by omega]; exact p5.2 _ (by omega)
theorem ush_nat {x v : Int32} {s : Nat} {y : UInt32} (e : v = (x.toUInt32 >>> y).toInt32) (hy : y.toNat % 32 = s) : v.toInt % 256 = ((x.toBitVec.toNat / 2 ^ s : Nat) : Int) % 256 := by
  have h1 : v.toBitVec.toNat = x.toBitVec.toNat / 2 ^ s := by
    rw [e, ← hy, ← Nat.shiftRight_eq_div_pow]
    show (x.toUInt32 >>> y).toNat = _
    rw [UInt32.toNat_shiftRight]
    rfl
  have h2 : v.toInt = v.toBitVec.toInt := rfl
  rw [h2, BitVec.toInt_eq_toNat_cond, h1]
  split <;> omega
theorem int_nat (x : Int32) : x.toInt = x.toBitVec.toNat ∨ x.toInt = (x.toBitVec.toNat : Int) - 4294967296 := by
  have h2 : x.toInt = x.toBitVec.toInt := rfl
  rw [h2, BitVec.toInt_eq_toNat_cond]
  split
  · exact Or.inl rfl
  · exact Or.inr rfl
theorem cl24 {x v w : Int32} (e : v = (x.toUInt32 >>> ((24 : Int32).toUInt32 &&& Int32.toUInt32 31)).toInt32) (f : w = v &&& 255) : w.toInt % 256 = x.toInt / 16777216 % 256 := by
  have a := ush_nat (s := 24) e (by decide)
  have b := and255_mod v
  have c := int_nat x
  rw [f, b, a]; omega
theorem cl16 {x v w : Int32} (e : v = (x.toUInt32 >>> ((16 : Int32).toUInt32 &&& Int32.toUInt32 31)).toInt32) (f : w = v &&& 255) : w.toInt % 256 = x.toInt / 65536 % 256 := by
  have a := ush_nat (s := 16) e (by decide)
  have b := and255_mod v
  have c := int_nat x
  rw [f, b, a]; omega
theorem cl8 {x v w : Int32} (e : v = (x.toUInt32 >>> ((8 : Int32).toUInt32 &&& Int32.toUInt32 31)).toInt32) (f : w = v &&& 255) : w.toInt % 256 = x.toInt / 256 % 256 := by
  have a := ush_nat (s := 8) e (by decide)
  have b := and255_mod v
  have c := int_nat x
  rw [f, b, a]; omega
theorem cl0 {x v w : Int32} (e : v = (x.toUInt32 >>> ((0 : Int32).toUInt32 &&& Int32.toUInt32 31)).toInt32) (f : w = v &&& 255) : w.toInt % 256 = x.toInt % 256 := by
  have a := ush_nat (s := 0) e (by decide)
  have b := and255_mod v
  have c := int_nat x
  rw [f, b, a]; omega
theorem nar_mod (x : Int32) : (vp_nar .byte x).toInt % 256 = x.toInt % 256 := by
  rw [show vp_nar .byte x = x.toInt8.toInt32 from rfl, Int8.toInt_toInt32, Int32.toInt_toInt8]
  have e : x.toInt.bmod (2 ^ 8) = x.toInt.bmod 256 := rfl
  rw [e]
  show (if x.toInt % 256 < (256 + 1) / 2 then x.toInt % 256 else x.toInt % 256 - 256) % 256 = x.toInt % 256
  split <;> omega
theorem i2b_mod (x : Int32) : (x.toInt8.toInt32).toInt % 256 = x.toInt % 256 := by
  rw [Int8.toInt_toInt32, Int32.toInt_toInt8]
  have e : x.toInt.bmod (2 ^ 8) = x.toInt.bmod 256 := rfl
  rw [e]
  show (if x.toInt % 256 < (256 + 1) / 2 then x.toInt % 256 else x.toInt % 256 - 256) % 256 = x.toInt % 256
  split <;> omega
theorem shr_int {x v : Int32} {y : Int32} {s : Nat} (e : v = x >>> y) (hy : (y.toBitVec.smod 32).toNat = s) : v.toInt = x.toInt / ((2 ^ s : Nat) : Int) := by
  have h : v.toBitVec = x.toBitVec.sshiftRight s := by rw [e, ← hy]; rfl
  have h2 : v.toInt = v.toBitVec.toInt := rfl
  have h3 : x.toInt = x.toBitVec.toInt := rfl
  rw [h2, h, h3, BitVec.toInt_sshiftRight, Int.shiftRight_eq_div_pow]
