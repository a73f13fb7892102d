/-! Determinants by the first column, over the rationals: rows may be added to each other; the part behind the first pivot; whole numbers stay whole. -/
theorem pz_m_congr {u v : Nat → Rat} : ∀ n : Nat, (∀ k, k < n → u k = v k) → pz_m n u = pz_m n v
  | 0, _ => rfl
  | n + 1, h => by
    simp only [pz_m]
    rw [pz_m_congr n (fun k hk => h k (by omega)), h n (by omega)]
theorem pz_m_lin (x : Rat) (u v : Nat → Rat) : ∀ n : Nat, pz_m n (fun k => x * u k + v k) = x * pz_m n u + pz_m n v
  | 0 => by simp only [pz_m]; grind
  | n + 1 => by
    simp only [pz_m]
    rw [pz_m_lin x u v n]
    grind
theorem pz_m_zero {u : Nat → Rat} {n : Nat} (h : ∀ k, k < n → u k = 0) : pz_m n u = 0 := by
  rw [pz_m_congr n (v := fun k => 0 * u k + 0) (fun k hk => by rw [h k hk]; grind), pz_m_lin]
  have : pz_m n (fun _ => (0 : Rat)) = 0 := by
    clear h
    induction n with
    | zero => rfl
    | succ n ih => simp only [pz_m, ih]; grind
  rw [this]
  grind
/-- two terms beside each other that cancel, all others 0 -/
theorem pz_m_two {u : Nat → Rat} : ∀ (n r : Nat), r + 1 < n → (∀ k, k < n → k ≠ r → k ≠ r + 1 → u k = 0) → u r + u (r + 1) = 0 → pz_m n u = 0
  | 0, _, h, _, _ => absurd h (by omega)
  | n + 1, r, hr, h, hs => by
    simp only [pz_m]
    by_cases e : r + 1 = n
    · subst e
      simp only [pz_m]
      rw [pz_m_zero (fun k hk => h k (by omega) (by omega) (by omega))]
      grind
    · rw [pz_m_two n r (by omega) (fun k hk h1 h2 => h k (by omega) h1 h2) hs, h n (by omega) (by omega) (by omega)]
      grind
/-- only the first term -/
theorem pz_m_first {u : Nat → Rat} : ∀ n : Nat, (∀ k, k < n + 1 → k ≠ 0 → u k = 0) → pz_m (n + 1) u = u 0
  | 0, _ => by simp only [pz_m]; grind
  | n + 1, h => by
    rw [pz_m, pz_m_first n (fun k hk h0 => h k (by omega) h0), h (n + 1) (by omega) (by omega)]
    grind
def pd_skip (i a : Nat) : Nat := if a < i then a else a + 1
theorem pd_skip_at {i r : Nat} (h : i ≠ r) : pd_skip i (if r < i then r else r - 1) = r := by
  rcases Nat.lt_or_ge r i with q | q
  · rw [if_pos q]; exact if_pos q
  · rw [if_neg (by omega)]; unfold pd_skip; rw [if_neg (by omega)]; omega
def pd_sg (i : Nat) : Rat := if i % 2 = 0 then 1 else -1
def pd_det : Nat → (Nat → Nat → Rat) → Rat
  | 0, _ => 1
  | n + 1, A => pz_m (n + 1) (fun i => pd_sg i * A i 0 * pd_det n (fun a b => A (pd_skip i a) (b + 1)))
theorem pd_congr : ∀ (n : Nat) (A B : Nat → Nat → Rat), (∀ a b, a < n → b < n → A a b = B a b) → pd_det n A = pd_det n B
  | 0, _, _, _ => rfl
  | n + 1, A, B, h => by
    simp only [pd_det]
    refine pz_m_congr _ fun i hi => ?_
    rw [h i 0 hi (by omega), pd_congr n _ _ (fun a b ha hb => h _ _ (by unfold pd_skip; split <;> omega) (by omega))]
theorem pd_lin (x : Rat) : ∀ (n : Nat) (A B C : Nat → Nat → Rat) (r : Nat), r < n → (∀ a b, a ≠ r → A a b = B a b ∧ A a b = C a b) → (∀ b, A r b = x * B r b + C r b) → pd_det n A = x * pd_det n B + pd_det n C
  | 0, _, _, _, _, h, _, _ => absurd h (by omega)
  | n + 1, A, B, C, r, hr, ho, hl => by
    simp only [pd_det]
    rw [← pz_m_lin]
    refine pz_m_congr _ fun i hi => ?_
    by_cases e : i = r
    · subst e
      have e1 : pd_det n (fun a b => A (pd_skip i a) (b + 1)) = pd_det n (fun a b => B (pd_skip i a) (b + 1)) := pd_congr n _ _ (fun a b _ _ => (ho _ _ (by unfold pd_skip; split <;> omega)).1)
      have e2 : pd_det n (fun a b => A (pd_skip i a) (b + 1)) = pd_det n (fun a b => C (pd_skip i a) (b + 1)) := pd_congr n _ _ (fun a b _ _ => (ho _ _ (by unfold pd_skip; split <;> omega)).2)
      rw [← e1, ← e2, hl 0]
      grind
    · have hA := ho i 0 e
      have ih := pd_lin x n (fun a b => A (pd_skip i a) (b + 1)) (fun a b => B (pd_skip i a) (b + 1)) (fun a b => C (pd_skip i a) (b + 1)) (if r < i then r else r - 1) (by split <;> omega) (fun a b ha => ho _ _ (by revert ha; unfold pd_skip; split <;> split <;> omega)) (fun b => by
        have hs : pd_skip i (if r < i then r else r - 1) = r := pd_skip_at e
        show A (pd_skip i _) (b + 1) = _
        simp only [hs]
        exact hl (b + 1))
      rw [ih, ← hA.1, ← hA.2]
      grind
/-- two equal rows beside each other -/
theorem pd_eq1 : ∀ (n : Nat) (A : Nat → Nat → Rat) (r : Nat), r + 1 < n → (∀ b, A r b = A (r + 1) b) → pd_det n A = 0
  | 0, _, _, h, _ => absurd h (by omega)
  | n + 1, A, r, hr, he => by
    simp only [pd_det]
    refine pz_m_two (n + 1) r hr (fun i hi h1 h2 => ?_) ?_
    · rw [pd_eq1 n (fun a b => A (pd_skip i a) (b + 1)) (if r < i then r else r - 1) (by split <;> omega) (fun b => ?_)]
      · grind
      · have hs : pd_skip i (if r < i then r else r - 1) = r := pd_skip_at h1
        have hs2 : pd_skip i ((if r < i then r else r - 1) + 1) = r + 1 := by
          rcases Nat.lt_or_ge r i with q | q
          · rw [if_pos q]; exact if_pos (by omega)
          · rw [if_neg (by omega)]; unfold pd_skip; rw [if_neg (by omega)]; omega
        show A (pd_skip i _) (b + 1) = A (pd_skip i _) (b + 1)
        rw [hs, hs2]
        exact he (b + 1)
    · have e : pd_det n (fun a b => A (pd_skip r a) (b + 1)) = pd_det n (fun a b => A (pd_skip (r + 1) a) (b + 1)) := pd_congr n _ _ (fun a b _ _ => by
        unfold pd_skip
        by_cases h : a = r
        · subst h
          rw [if_neg (by omega), if_pos (by omega)]
          exact (he (b + 1)).symm
        · by_cases h2 : a < r
          · rw [if_pos h2, if_pos (by omega)]
          · rw [if_neg h2, if_neg (by omega)])
      rw [e, he 0]
      have hsg : pd_sg (r + 1) = -pd_sg r := by
        unfold pd_sg
        by_cases h : r % 2 = 0
        · rw [if_pos h, if_neg (by omega)]
        · rw [if_neg h, if_pos (by omega)]; grind
      rw [hsg]
      grind
/-- the matrix with the row r replaced -/
def pd_row (A : Nat → Nat → Rat) (r : Nat) (u : Nat → Rat) : Nat → Nat → Rat := fun a b => if a = r then u b else A a b
theorem pd_row_at (A : Nat → Nat → Rat) (r : Nat) (u : Nat → Rat) (b : Nat) : pd_row A r u r b = u b := if_pos rfl
theorem pd_row_ne (A : Nat → Nat → Rat) {r a : Nat} (u : Nat → Rat) (b : Nat) (h : a ≠ r) : pd_row A r u a b = A a b := if_neg h
/-- rows beside each other change places: the sign turns -/
theorem pd_swap (n : Nat) (A : Nat → Nat → Rat) (r : Nat) (hr : r + 1 < n) : pd_det n (pd_row (pd_row A r (A (r + 1))) (r + 1) (A r)) = -pd_det n A := by
  have hs : ∀ u v : Nat → Rat, pd_det n (pd_row (pd_row A r u) (r + 1) v) = pd_det n (pd_row (pd_row A r u) (r + 1) v) := fun _ _ => rfl
  -- both rows u + v
  have z : ∀ u : Nat → Rat, pd_det n (pd_row (pd_row A r u) (r + 1) u) = 0 := fun u => pd_eq1 n _ r hr (fun b => by
    rw [pd_row_at, pd_row_ne _ _ _ (by omega), pd_row_at])
  have l2 : ∀ u v w : Nat → Rat, pd_det n (pd_row (pd_row A r u) (r + 1) (fun b => v b + w b)) = pd_det n (pd_row (pd_row A r u) (r + 1) v) + pd_det n (pd_row (pd_row A r u) (r + 1) w) := fun u v w => by
    rw [pd_lin 1 n _ (pd_row (pd_row A r u) (r + 1) v) (pd_row (pd_row A r u) (r + 1) w) (r + 1) hr (fun a b h => by
      rw [pd_row_ne _ _ _ h, pd_row_ne _ _ _ h, pd_row_ne _ _ _ h]; exact ⟨rfl, rfl⟩) (fun b => by
      rw [pd_row_at, pd_row_at, pd_row_at]; grind)]
    grind
  have l1 : ∀ u v w : Nat → Rat, pd_det n (pd_row (pd_row A r (fun b => u b + v b)) (r + 1) w) = pd_det n (pd_row (pd_row A r u) (r + 1) w) + pd_det n (pd_row (pd_row A r v) (r + 1) w) := fun u v w => by
    rw [pd_lin 1 n _ (pd_row (pd_row A r u) (r + 1) w) (pd_row (pd_row A r v) (r + 1) w) r (by omega) (fun a b h => by
      by_cases h2 : a = r + 1
      · subst h2; rw [pd_row_at, pd_row_at, pd_row_at]; exact ⟨rfl, rfl⟩
      · rw [pd_row_ne _ _ _ h2, pd_row_ne _ _ _ h, pd_row_ne _ _ _ h2, pd_row_ne _ _ _ h, pd_row_ne _ _ _ h2, pd_row_ne _ _ _ h]; exact ⟨rfl, rfl⟩) (fun b => by
      rw [pd_row_ne _ _ _ (by omega), pd_row_at, pd_row_ne _ _ _ (by omega), pd_row_at, pd_row_ne _ _ _ (by omega), pd_row_at]; grind)]
    grind
  have h := z (fun b => A r b + A (r + 1) b)
  rw [l1 (A r) (A (r + 1)), l2, l2, z, z] at h
  have hid : pd_det n (pd_row (pd_row A r (A r)) (r + 1) (A (r + 1))) = pd_det n A := pd_congr n _ _ (fun a b _ _ => by
    by_cases h2 : a = r + 1
    · subst h2; rw [pd_row_at]
    · rw [pd_row_ne _ _ _ h2]
      by_cases h3 : a = r
      · subst h3; rw [pd_row_at]
      · rw [pd_row_ne _ _ _ h3])
  rw [hid] at h
  grind
/-- two equal rows -/
theorem pd_eq2 (n : Nat) : ∀ (k : Nat) (A : Nat → Nat → Rat) (r : Nat), r + 1 + k < n → (∀ b, A r b = A (r + 1 + k) b) → pd_det n A = 0
  | 0, A, r, hr, he => pd_eq1 n A r hr he
  | k + 1, A, r, hr, he => by
    have h1 := pd_swap n A (r + 1 + k) (by omega)
    have h2 := pd_eq2 n k (pd_row (pd_row A (r + 1 + k) (A (r + 1 + k + 1))) (r + 1 + k + 1) (A (r + 1 + k))) r (by omega) (fun b => by
      rw [pd_row_ne _ _ _ (by omega), pd_row_ne _ _ _ (by omega), pd_row_ne _ _ _ (by omega), pd_row_at]
      exact he b)
    rw [h2] at h1
    grind
/-- a multiple of the first row may be added to another -/
theorem pd_add (n : Nat) (A : Nat → Nat → Rat) (r : Nat) (hr : r + 1 < n) (x : Rat) : pd_det n (pd_row A (r + 1) (fun b => x * A 0 b + A (r + 1) b)) = pd_det n A := by
  rw [pd_lin x n _ (pd_row A (r + 1) (A 0)) A (r + 1) hr (fun a b h => by rw [pd_row_ne _ _ _ h, pd_row_ne _ _ _ h]; exact ⟨rfl, rfl⟩) (fun b => by rw [pd_row_at, pd_row_at])]
  rw [pd_eq2 n r (pd_row A (r + 1) (A 0)) 0 (by omega) (fun b => by rw [pd_row_ne _ _ _ (by omega), show 0 + 1 + r = r + 1 by omega, pd_row_at])]
  grind
/-- what is left behind the first pivot -/
def pd_schur (A : Nat → Nat → Rat) : Nat → Nat → Rat := fun a b => A (a + 1) (b + 1) - A (a + 1) 0 * A 0 (b + 1) / A 0 0
def pd_clear (A : Nat → Nat → Rat) (k : Nat) : Nat → Nat → Rat := fun a b => if a = 0 ∨ k < a then A a b else A a b - A a 0 * A 0 b / A 0 0
theorem pd_clear_det (n : Nat) (A : Nat → Nat → Rat) : ∀ k : Nat, k < n → pd_det n (pd_clear A k) = pd_det n A
  | 0, _ => pd_congr n _ _ (fun a b _ _ => by unfold pd_clear; rw [if_pos (by omega)])
  | k + 1, hk => by
    rw [← pd_clear_det n A k (by omega), ← pd_add n (pd_clear A k) k hk (-(A (k + 1) 0 / A 0 0))]
    refine pd_congr n _ _ (fun a b _ _ => ?_)
    by_cases h : a = k + 1
    · subst h
      rw [pd_row_at]
      unfold pd_clear
      rw [if_neg (by omega), if_pos (by omega), if_pos (by omega)]
      grind
    · rw [pd_row_ne _ _ _ h]
      unfold pd_clear
      by_cases h2 : a = 0 ∨ k + 1 < a
      · rw [if_pos h2, if_pos (by omega)]
      · rw [if_neg h2, if_neg (by omega)]
theorem pd_pivot (n : Nat) (A : Nat → Nat → Rat) (h0 : A 0 0 ≠ 0) : pd_det (n + 1) A = A 0 0 * pd_det n (pd_schur A) := by
  rw [← pd_clear_det (n + 1) A n (by omega)]
  rw [pd_det]
  rw [pz_m_first n (fun i hi h => by
    have : pd_clear A n i 0 = 0 := by
      unfold pd_clear
      rw [if_neg (by omega)]
      have := Rat.mul_div_cancel (a := A i 0) h0
      grind
    rw [this]; grind)]
  have e1 : pd_clear A n 0 0 = A 0 0 := by unfold pd_clear; rw [if_pos (by omega)]
  rw [e1, pd_congr n (fun a b => pd_clear A n (pd_skip 0 a) (b + 1)) (pd_schur A) (fun a b ha hb => by
    unfold pd_clear pd_skip pd_schur
    rw [if_neg (by omega : ¬ a < 0), if_neg (by omega)])]
  unfold pd_sg
  rw [if_pos (by omega)]
  grind
/-- whole numbers -/
def pd_Z (x : Rat) : Prop := ∃ z : Int, x = (z : Rat)
theorem pd_Z_add {x y : Rat} (hx : pd_Z x) (hy : pd_Z y) : pd_Z (x + y) := by
  obtain ⟨a, rfl⟩ := hx
  obtain ⟨b, rfl⟩ := hy
  exact ⟨a + b, (Rat.intCast_add a b).symm⟩
theorem pd_Z_mul {x y : Rat} (hx : pd_Z x) (hy : pd_Z y) : pd_Z (x * y) := by
  obtain ⟨a, rfl⟩ := hx
  obtain ⟨b, rfl⟩ := hy
  exact ⟨a * b, (Rat.intCast_mul a b).symm⟩
theorem pd_Z_sum {u : Nat → Rat} : ∀ n : Nat, (∀ k, k < n → pd_Z (u k)) → pd_Z (pz_m n u)
  | 0, _ => ⟨0, rfl⟩
  | n + 1, h => pd_Z_add (pd_Z_sum n (fun k hk => h k (by omega))) (h n (by omega))
theorem pd_Z_det : ∀ (n : Nat) (A : Nat → Nat → Rat), (∀ a b, a < n → b < n → pd_Z (A a b)) → pd_Z (pd_det n A)
  | 0, _, _ => ⟨1, rfl⟩
  | n + 1, A, h => by
    simp only [pd_det]
    refine pd_Z_sum _ fun i hi => pd_Z_mul (pd_Z_mul ?_ (h i 0 hi (by omega))) (pd_Z_det n _ (fun a b ha hb => h _ _ (by unfold pd_skip; split <;> omega) (by omega)))
    unfold pd_sg
    split
    · exact ⟨1, rfl⟩
    · exact ⟨-1, rfl⟩
