/-! Elimination: all rows are cleared at each pivot. d times what stands is whole where the matrix is; where the matrix is that of a play that ends, pivots are above 0. -/
def pd_G : Nat → (Nat → Nat → Rat) → Nat → Nat → Rat
  | 0, A => A
  | c + 1, A => fun i j => if i = c then pd_G c A c j / pd_G c A c c else pd_G c A i j - pd_G c A i c * pd_G c A c j / pd_G c A c c
def pd_d : Nat → (Nat → Nat → Rat) → Rat
  | 0, _ => 1
  | c + 1, A => pd_d c A * pd_G c A c c
theorem pd_G_at (c : Nat) (A : Nat → Nat → Rat) (j : Nat) : pd_G (c + 1) A c j = pd_G c A c j / pd_G c A c c := if_pos rfl
theorem pd_G_ne (c : Nat) (A : Nat → Nat → Rat) {i : Nat} (j : Nat) (h : i ≠ c) : pd_G (c + 1) A i j = pd_G c A i j - pd_G c A i c * pd_G c A c j / pd_G c A c c := if_neg h
theorem pd_G_schur (A : Nat → Nat → Rat) : ∀ (c a b : Nat), pd_G (c + 1) A (a + 1) (b + 1) = pd_G c (pd_schur A) a b
  | 0, a, b => by
    rw [pd_G_ne 0 A _ (by omega)]
    rfl
  | c + 1, a, b => by
    by_cases h : a = c
    · subst h
      rw [pd_G_at (a + 1) A, pd_G_at a, pd_G_schur A a, pd_G_schur A a]
    · rw [pd_G_ne (c + 1) A _ (by omega), pd_G_ne c _ _ h, pd_G_schur A c, pd_G_schur A c, pd_G_schur A c, pd_G_schur A c]
theorem pd_d_schur (A : Nat → Nat → Rat) : ∀ c : Nat, pd_d (c + 1) A = A 0 0 * pd_d c (pd_schur A)
  | 0 => by simp only [pd_d, pd_G]; grind
  | c + 1 => by
    rw [pd_d, pd_d_schur A c, pd_G_schur A c, pd_d]
    grind
/-- rows from c on: d times what stands there is the determinant of the first c rows and columns with one row and column more -/
theorem pd_border : ∀ (c : Nat) (A : Nat → Nat → Rat) (r j : Nat), c ≤ r → c ≤ j → (∀ k, k < c → pd_G k A k k ≠ 0) → pd_d c A * pd_G c A r j = pd_det (c + 1) (fun a b => A (if a < c then a else r) (if b < c then b else j))
  | 0, A, r, j, _, _, _ => by
    simp only [pd_d, pd_G, pd_det, pz_m, pd_sg]
    simp
    grind
  | c + 1, A, r, j, hr, hj, hp => by
    obtain ⟨r, rfl⟩ : ∃ x, r = x + 1 := ⟨r - 1, by omega⟩
    obtain ⟨j, rfl⟩ : ∃ x, j = x + 1 := ⟨j - 1, by omega⟩
    have h0 : A 0 0 ≠ 0 := hp 0 (by omega)
    rw [pd_d_schur, pd_G_schur, pd_pivot (c + 1) _ (by simpa using h0)]
    have ih := pd_border c (pd_schur A) r j (by omega) (by omega) (fun k hk => by rw [← pd_G_schur]; exact hp (k + 1) (by omega))
    have e : pd_det (c + 1) (pd_schur (fun a b => A (if a < c + 1 then a else r + 1) (if b < c + 1 then b else j + 1))) = pd_det (c + 1) (fun a b => pd_schur A (if a < c then a else r) (if b < c then b else j)) := by
      refine pd_congr _ _ _ fun a b ha hb => ?_
      unfold pd_schur
      have e1 : (if a + 1 < c + 1 then a + 1 else r + 1) = (if a < c then a else r) + 1 := by
        by_cases h : a < c
        · rw [if_pos h, if_pos (by omega)]
        · rw [if_neg h, if_neg (by omega)]
      have e2 : (if b + 1 < c + 1 then b + 1 else j + 1) = (if b < c then b else j) + 1 := by
        by_cases h : b < c
        · rw [if_pos h, if_pos (by omega)]
        · rw [if_neg h, if_neg (by omega)]
      simp only [e1, e2, if_pos (show 0 < c + 1 by omega)]
    rw [e, ← ih]
    simp only [if_pos (show 0 < c + 1 by omega)]
    grind
/-- pivot columns are cleared -/
theorem pd_unit (A : Nat → Nat → Rat) : ∀ (c : Nat), (∀ k, k < c → pd_G k A k k ≠ 0) → ∀ i j, j < c → pd_G c A i j = if i = j then 1 else 0
  | 0, _, i, j, h => absurd h (by omega)
  | c + 1, hp, i, j, hj => by
    have hc := hp c (by omega)
    rcases Nat.lt_or_ge j c with q | q
    · have ih := pd_unit A c (fun k hk => hp k (by omega))
      by_cases h : i = c
      · subst h
        rw [pd_G_at, ih i j q, if_neg (by omega)]
        grind
      · rw [pd_G_ne c A j h, ih i j q, ih c j q, if_neg (by omega : ¬ c = j)]
        grind
    · have e : j = c := by omega
      subst e
      by_cases h : i = j
      · subst h
        rw [pd_G_at, if_pos rfl]
        have := Rat.mul_inv_cancel _ hc
        grind
      · rw [pd_G_ne j A j h, if_neg h]
        have := Rat.mul_div_cancel (a := pd_G j A i j) hc
        grind
/-- with one row R in place of A's: minus the unit row of i -/
def pd_aug (A : Nat → Nat → Rat) (R i : Nat) : Nat → Nat → Rat := fun a b => if a = R then (if b = i then -1 else 0) else A a b
theorem pd_aug_other (A : Nat → Nat → Rat) (R i : Nat) : ∀ c, c ≤ R → ∀ a b, a ≠ R → pd_G c (pd_aug A R i) a b = pd_G c A a b
  | 0, _, a, b, h => if_neg h
  | c + 1, hc, a, b, h => by
    have ih := pd_aug_other A R i c (by omega)
    by_cases e : a = c
    · subst e
      rw [pd_G_at, pd_G_at, ih a b h, ih a a h]
    · rw [pd_G_ne c _ b e, pd_G_ne c A b e, ih a b h, ih a c h, ih c b (by omega), ih c c (by omega)]
theorem pd_aug_before (A : Nat → Nat → Rat) (R i : Nat) : ∀ c, c ≤ R → c ≤ i → ∀ b, pd_G c (pd_aug A R i) R b = if b = i then -1 else 0
  | 0, _, _, b => if_pos rfl
  | c + 1, hc, hi, b => by
    have ih := pd_aug_before A R i c (by omega) (by omega)
    rw [pd_G_ne c _ b (by omega), ih b, ih c, if_neg (by omega : ¬ c = i)]
    grind
theorem pd_aug_behind (A : Nat → Nat → Rat) (R i : Nat) (hiR : i < R) : ∀ c, i < c → c ≤ R → (∀ k, k < c → pd_G k A k k ≠ 0) → ∀ b, b ≠ i → pd_G c (pd_aug A R i) R b = pd_G c A i b
  | 0, h, _, _, _, _ => absurd h (by omega)
  | c + 1, h, hc, hp, b, hb => by
    by_cases e : i = c
    · subst e
      rw [pd_G_ne i _ b (by omega), pd_aug_before A R i i (by omega) (by omega), pd_aug_before A R i i (by omega) (by omega), if_neg hb, if_pos rfl, pd_aug_other A R i i (by omega) i b (by omega), pd_aug_other A R i i (by omega) i i (by omega), pd_G_at]
      grind
    · have ih := pd_aug_behind A R i hiR c (by omega) (by omega) (fun k hk => hp k (by omega))
      rw [pd_G_ne c _ b (by omega), pd_G_ne c A b e, ih b hb, ih c (fun q => e q.symm), pd_aug_other A R i c (by omega) c b (by omega), pd_aug_other A R i c (by omega) c c (by omega)]
theorem pd_aug_d (A : Nat → Nat → Rat) (R i : Nat) : ∀ c, c ≤ R → pd_d c (pd_aug A R i) = pd_d c A
  | 0, _ => rfl
  | c + 1, hc => by rw [pd_d, pd_d, pd_aug_d A R i c (by omega), pd_aug_other A R i c (by omega) c c (by omega)]
/-- WHOLE: of a matrix of whole numbers, d times what stands is whole, everywhere -/
theorem pd_whole (A : Nat → Nat → Rat) (hA : ∀ a b, pd_Z (A a b)) : ∀ c, (∀ k, k < c → pd_G k A k k ≠ 0) → pd_Z (pd_d c A) ∧ ∀ i j, pd_Z (pd_d c A * pd_G c A i j) := by
  intro c hp
  have hrow : ∀ (B : Nat → Nat → Rat), (∀ a b, pd_Z (B a b)) → ∀ c, (∀ k, k < c → pd_G k B k k ≠ 0) → ∀ r j, c ≤ r → c ≤ j → pd_Z (pd_d c B * pd_G c B r j) := by
    intro B hB c hp r j hr hj
    rw [pd_border c B r j hr hj hp]
    exact pd_Z_det _ _ (fun a b _ _ => hB _ _)
  have hd : pd_Z (pd_d c A) := by
    cases c with
    | zero => exact ⟨1, rfl⟩
    | succ c =>
      rw [pd_d]
      exact hrow A hA c (fun k hk => hp k (by omega)) c c (by omega) (by omega)
  refine ⟨hd, fun i j => ?_⟩
  rcases Nat.lt_or_ge j c with hj | hj
  · rw [pd_unit A c hp i j hj]
    split
    · rw [Rat.mul_one]; exact hd
    · rw [Rat.mul_zero]; exact ⟨0, rfl⟩
  · rcases Nat.lt_or_ge i c with hi | hi
    · have hB : ∀ a b, pd_Z (pd_aug A c i a b) := fun a b => by
        unfold pd_aug
        split
        · split
          · exact ⟨-1, rfl⟩
          · exact ⟨0, rfl⟩
        · exact hA a b
      have hpB : ∀ k, k < c → pd_G k (pd_aug A c i) k k ≠ 0 := fun k hk => by
        rw [pd_aug_other A c i k (by omega) k k (by omega)]; exact hp k hk
      have := hrow (pd_aug A c i) hB c hpB c j (by omega) hj
      rw [pd_aug_d A c i c (by omega), pd_aug_behind A c i hi c hi (by omega) hp j (by omega)] at this
      exact this
    · exact hrow A hA c hp i j hi hj
