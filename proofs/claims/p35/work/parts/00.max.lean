/-! Plays on a network: sums over ways, coming to an end, the greatest-value principle, the best reply, plans that get better. Pure: nothing of the machine. -/
/-- the sum of weight times value over a list of (weight, target) -/
def pz_s : List (Nat × Nat) → (Nat → Rat) → Rat
  | [], _ => 0
  | p :: l, u => (p.1 : Rat) * u p.2 + pz_s l u
theorem pz_s_sub (l : List (Nat × Nat)) (u v : Nat → Rat) : pz_s l (fun k => u k - v k) = pz_s l u - pz_s l v := by
  induction l with
  | nil => simp [pz_s]; grind
  | cons p l ih => simp only [pz_s, ih]; grind
theorem pz_s_const (l : List (Nat × Nat)) (c : Rat) : pz_s l (fun _ => c) = pz_s l (fun _ => 1) * c := by
  induction l with
  | nil => simp [pz_s]
  | cons p l ih => simp only [pz_s, ih]; grind
theorem pz_cast_nonneg (n : Nat) : (0 : Rat) ≤ (n : Rat) := by exact_mod_cast Nat.zero_le n
theorem pz_cast_pos {n : Nat} (h : 0 < n) : (0 : Rat) < (n : Rat) := by exact_mod_cast h
theorem pz_s_le {l : List (Nat × Nat)} {u v : Nat → Rat} (h : ∀ p ∈ l, u p.2 ≤ v p.2) : pz_s l u ≤ pz_s l v := by
  induction l with
  | nil => exact Rat.le_refl
  | cons p l ih =>
    have h1 := h p List.mem_cons_self
    have h2 := ih (fun q hq => h q (List.mem_cons_of_mem _ hq))
    have h3 := Rat.mul_le_mul_of_nonneg_left h1 (pz_cast_nonneg p.1)
    simp only [pz_s]
    grind
theorem pz_s_nonneg {l : List (Nat × Nat)} {u : Nat → Rat} (h : ∀ p ∈ l, 0 ≤ u p.2) : 0 ≤ pz_s l u := by
  have := pz_s_le (l := l) (u := fun _ => 0) (v := u) h
  rw [pz_s_const, Rat.mul_zero] at this
  exact this
/-- terms that are none below 0 and together not above 0 are all 0 -/
theorem pz_s_zero {l : List (Nat × Nat)} {u : Nat → Rat} (hw : ∀ p ∈ l, 0 < p.1) (h : ∀ p ∈ l, 0 ≤ u p.2) (hs : pz_s l u ≤ 0) : ∀ p ∈ l, u p.2 = 0 := by
  induction l with
  | nil => intro p hp; cases hp
  | cons q l ih =>
    have h1 := h q List.mem_cons_self
    have h2 : 0 ≤ pz_s l u := pz_s_nonneg (fun p hp => h p (List.mem_cons_of_mem _ hp))
    have h3 := Rat.mul_nonneg (pz_cast_nonneg q.1) h1
    simp only [pz_s] at hs
    have e1 : (q.1 : Rat) * u q.2 = 0 := by grind
    have e2 : pz_s l u ≤ 0 := by grind
    have hq := pz_cast_pos (hw q List.mem_cons_self)
    intro p hp
    rcases List.mem_cons.mp hp with rfl | hp
    · rcases Rat.mul_eq_zero.mp e1 with h0 | h0
      · rw [h0] at hq; exact absurd hq Rat.lt_irrefl
      · exact h0
    · exact ih (fun p hp => hw p (List.mem_cons_of_mem _ hp)) (fun p hp => h p (List.mem_cons_of_mem _ hp)) e2 p hp
/-- some place below n has the greatest of the values -/
theorem pz_max (u : Nat → Rat) : ∀ n : Nat, 0 < n → ∃ k, k < n ∧ ∀ j, j < n → u j ≤ u k
  | 1, _ => ⟨0, by omega, fun j hj => by rw [show j = 0 by omega]; exact Rat.le_refl⟩
  | n + 2, _ => by
    obtain ⟨k, hk, h⟩ := pz_max u (n + 1) (by omega)
    by_cases hn : u (n + 1) ≤ u k
    · exact ⟨k, by omega, fun j hj => by
        rcases Nat.lt_or_ge j (n + 1) with q | q
        · exact h j q
        · rw [show j = n + 1 by omega]; exact hn⟩
    · refine ⟨n + 1, by omega, fun j hj => ?_⟩
      rcases Nat.lt_or_ge j (n + 1) with q | q
      · have := h j q
        grind
      · rw [show j = n + 1 by omega]; exact Rat.le_refl
section PZ
variable (n : Nat) (en : Nat → Bool) (sc : Nat → List (Nat × Nat))
/-- an end is come to in at most m moves by the ways sc -/
def pz_R : Nat → Nat → Prop
  | 0, k => en k = true
  | m + 1, k => en k = true ∨ ∃ p ∈ sc k, pz_R m p.2
def pz_C (k : Nat) : Prop := ∃ m, pz_R en sc m k
/-- ways lead to places below n, by weights above 0, and there is one -/
def pz_ok : Prop := ∀ k, k < n → en k = false → sc k ≠ [] ∧ ∀ p ∈ sc k, 0 < p.1 ∧ p.2 < n
variable {n en sc}
theorem pz_C_step {k : Nat} {p : Nat × Nat} (hp : p ∈ sc k) (h : pz_C en sc p.2) : pz_C en sc k := by
  obtain ⟨m, hm⟩ := h
  exact ⟨m + 1, Or.inr ⟨p, hp, hm⟩⟩
theorem pz_C_end {k : Nat} (h : en k = true) : pz_C en sc k := ⟨0, h⟩
/-- THE PRINCIPLE: what is not above 0 at ends and where no end is come to, and elsewhere not above the mean of what follows, is nowhere above 0 -/
theorem pz_prin (hok : pz_ok n en sc) {u : Nat → Rat} (h0 : ∀ k, k < n → (en k = true ∨ ¬ pz_C en sc k) → u k ≤ 0) (h1 : ∀ k, k < n → en k = false → pz_C en sc k → pz_s (sc k) (fun _ => 1) * u k ≤ pz_s (sc k) u) : ∀ k, k < n → u k ≤ 0 := by
  intro k hk
  obtain ⟨x, hx, hmax⟩ := pz_max u n (by omega)
  by_cases hM : u x ≤ 0
  · exact Rat.le_trans (hmax k hk) hM
  · exfalso
    have key : ∀ m y, y < n → u y = u x → pz_R en sc m y → False := by
      intro m
      induction m with
      | zero => intro y hy e hr; exact hM (by rw [← e]; exact h0 y hy (Or.inl hr))
      | succ m ih =>
        intro y hy e hr
        by_cases he : en y = true
        · exact hM (by rw [← e]; exact h0 y hy (Or.inl he))
        · have he : en y = false := by simpa using he
          rcases hr with hr | ⟨p, hp, hr⟩
          · rw [hr] at he; cases he
          · have hc : pz_C en sc y := ⟨m + 1, Or.inr ⟨p, hp, hr⟩⟩
            have hs := h1 y hy he hc
            obtain ⟨-, hall⟩ := hok y hy he
            have hz := pz_s_zero (l := sc y) (u := fun k => u x - u k) (fun q hq => (hall q hq).1) (fun q hq => by
              have := hmax q.2 (hall q hq).2
              grind) (by
              rw [pz_s_sub (sc y) (fun _ => u x) u, pz_s_const]
              rw [e] at hs
              grind)
            have := hz p hp
            exact ih p.2 (hall p hp).2 (by grind) hr
    by_cases hc : pz_C en sc x
    · obtain ⟨m, hm⟩ := hc
      exact key m x hx rfl hm
    · exact hM (h0 x hx (Or.inr hc))
end PZ
