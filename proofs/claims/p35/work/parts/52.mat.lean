/-! the rows that a play lays -/
abbrev wsel (f c : Nat → Int32) (k i : Nat) : Prop := (f (1 + k)).toInt = 3 ∨ (c k).toInt = (i : Int)
def wwt (f : Nat → Int32) (k i : Nat) : Int := if (f (1 + k)).toInt = 3 then (f (73 + 3 * k + i)).toInt else 1
def wtg (f : Nat → Int32) (k i : Nat) : Nat := (f (37 + 3 * k + i)).toInt.toNat
def gsm (f c : Nat → Int32) (k : Nat) (u : Nat → Int) : Nat → Int
  | 0 => 0
  | i + 1 => gsm f c k u i + (if wsel f c k i then wwt f k i * u (wtg f k i) else 0)
def gsR (f c : Nat → Int32) (k : Nat) (u : Nat → Rat) : Nat → Rat
  | 0 => 0
  | i + 1 => gsR f c k u i + (if wsel f c k i then ((wwt f k i : Int) : Rat) * u (wtg f k i) else 0)
def wys (f : Nat → Int32) (k : Nat) : Nat := (f (25 + k)).toInt.toNat
section GM
variable {f c : Nat → Int32} {k : Nat}
theorem gsR_cast (u : Nat → Int) : ∀ m, ((gsm f c k u m : Int) : Rat) = gsR f c k (fun t => ((u t : Int) : Rat)) m
  | 0 => rfl
  | m + 1 => by
    show ((gsm f c k u m + _ : Int) : Rat) = gsR f c k _ m + _
    rw [Rat.intCast_add, gsR_cast u m]
    by_cases q : wsel f c k m
    · rw [if_pos q, if_pos q, Rat.intCast_mul]
    · rw [if_neg q, if_neg q]; rfl
theorem gsR_lin (a : Rat) (u v : Nat → Rat) : ∀ m, gsR f c k (fun t => a * u t + v t) m = a * gsR f c k u m + gsR f c k v m
  | 0 => by show (0 : Rat) = a * 0 + 0; grind
  | m + 1 => by
    show gsR f c k _ m + _ = a * (gsR f c k u m + _) + (gsR f c k v m + _)
    rw [gsR_lin a u v m]
    by_cases q : wsel f c k m
    · rw [if_pos q, if_pos q, if_pos q]; grind
    · rw [if_neg q, if_neg q, if_neg q]; grind
theorem gsR_congr {u v : Nat → Rat} : ∀ m, (∀ i, i < m → wsel f c k i → u (wtg f k i) = v (wtg f k i)) → gsR f c k u m = gsR f c k v m
  | 0, _ => rfl
  | m + 1, h => by
    show gsR f c k u m + _ = gsR f c k v m + _
    rw [gsR_congr m (fun i hi => h i (by omega))]
    by_cases q : wsel f c k m
    · rw [if_pos q, if_pos q, h m (by omega) q]
    · rw [if_neg q, if_neg q]
theorem gsR_le {u v : Nat → Rat} : ∀ m, (∀ i, i < m → 0 ≤ wwt f k i) → (∀ i, i < m → wsel f c k i → u (wtg f k i) ≤ v (wtg f k i)) → gsR f c k u m ≤ gsR f c k v m
  | 0, _, _ => Rat.le_refl
  | m + 1, hw, h => by
    show gsR f c k u m + _ ≤ gsR f c k v m + _
    have ih := gsR_le m (fun i hi => hw i (by omega)) (fun i hi => h i (by omega))
    by_cases q : wsel f c k m
    · rw [if_pos q, if_pos q]
      have w0 : (0 : Rat) ≤ ((wwt f k m : Int) : Rat) := by exact_mod_cast hw m (by omega)
      have := Rat.mul_le_mul_of_nonneg_left (c := ((wwt f k m : Int) : Rat)) (h m (by omega) q) w0
      grind
    · rw [if_neg q, if_neg q]; grind
theorem gsR_zero : ∀ m, gsR f c k (fun _ => 0) m = 0
  | 0 => rfl
  | m + 1 => by
    show gsR f c k _ m + _ = 0
    rw [gsR_zero m]
    by_cases q : wsel f c k m
    · rw [if_pos q]; grind
    · rw [if_neg q]; grind
/-- one way's value lies lower: so much lower lies the sum -/
theorem gsR_gap {u : Nat → Rat} {e : Rat} {i0 : Nat} (he : 0 ≤ e) (hi : wsel f c k i0) : ∀ m, i0 < m → (∀ i, i < m → 1 ≤ wwt f k i) → (∀ i, i < m → wsel f c k i → u (wtg f k i) ≤ 1) → u (wtg f k i0) ≤ 1 - e → gsR f c k u m ≤ gsR f c k (fun _ => 1) m - e
  | 0, h, _, _, _ => absurd h (by omega)
  | m + 1, h, hw, hu, h0 => by
    show gsR f c k u m + _ ≤ gsR f c k _ m + _ - e
    have w1 : (1 : Rat) ≤ ((wwt f k m : Int) : Rat) := by exact_mod_cast hw m (by omega)
    by_cases q0 : i0 = m
    · subst q0
      rw [if_pos hi, if_pos hi]
      have ih := gsR_le (u := u) (v := fun _ => 1) (c := c) i0 (fun i hi => by have := hw i (by omega); omega) (fun i hi => hu i (by omega))
      have a1 := Rat.mul_le_mul_of_nonneg_left (c := ((wwt f k i0 : Int) : Rat)) h0 (by grind)
      have a2 := Rat.mul_le_mul_of_nonneg_right (c := e) w1 he
      grind
    · have ih := gsR_gap he hi m (by omega) (fun i hi => hw i (by omega)) (fun i hi => hu i (by omega)) h0
      by_cases q : wsel f c k m
      · rw [if_pos q, if_pos q]
        have a1 := Rat.mul_le_mul_of_nonneg_left (c := ((wwt f k m : Int) : Rat)) (hu m (by omega) q) (by grind)
        grind
      · rw [if_neg q, if_neg q]; grind
theorem gsm_one_chance (h : (f (1 + k)).toInt = 3) : ∀ m, gsm f c k (fun _ => 1) m = gw f k m
  | 0 => rfl
  | m + 1 => by
    show gsm f c k _ m + _ = gw f k m + _
    rw [gsm_one_chance h m, if_pos (Or.inl h)]
    unfold wwt
    rw [if_pos h]
    show gw f k m + (f (73 + 3 * k + m)).toInt * 1 = gw f k m + (f (73 + 3 * k + m)).toInt
    omega
theorem gsm_one_player (h : ¬ (f (1 + k)).toInt = 3) : ∀ m : Nat, gsm f c k (fun _ => 1) m = if 0 ≤ (c k).toInt ∧ (c k).toInt < (m : Int) then 1 else 0
  | 0 => by rw [if_neg (by omega)]; rfl
  | m + 1 => by
    show gsm f c k _ m + _ = _
    rw [gsm_one_player h m]
    by_cases q : wsel f c k m
    · rw [if_pos q]
      have q2 : (c k).toInt = (m : Int) := by rcases q with q | q; exact absurd q h; exact q
      unfold wwt
      rw [if_neg h, if_neg (by omega), if_pos (by omega)]
      rfl
    · rw [if_neg q]
      have q2 : ¬ (c k).toInt = (m : Int) := fun e => q (Or.inr e)
      by_cases q3 : 0 ≤ (c k).toInt ∧ (c k).toInt < (m : Int)
      · rw [if_pos q3, if_pos (by omega)]; omega
      · rw [if_neg q3, if_neg (by omega)]; omega
theorem gs_w1 (h : GS f) (hk : k < 12) {i : Nat} (hi : i < wys f k) : 1 ≤ wwt f k i ∧ wwt f k i ≤ 3 ∧ (wtg f k i : Int) < (f 0).toInt ∧ (wtg f k i : Int) = (f (37 + 3 * k + i)).toInt := by
  have h3 := (h.r.2.1 k hk).2.2.1
  have hi2 : (i : Int) < (f (25 + k)).toInt := by unfold wys at hi; omega
  have h4 := h.1.2.2.2.1 k i hk hi2
  have h5 := (h.r.2.2 (3 * k + i) (by omega))
  rw [← Nat.add_assoc, ← Nat.add_assoc] at h5
  unfold wwt wtg
  refine ⟨?_, ?_, by omega, by omega⟩
  · split <;> omega
  · split <;> omega
theorem gs_all (h : GS f) (hk : k < 12) : gsm f c k (fun _ => 1) (wys f k) ≤ (if (f (1 + k)).toInt = 3 then 4 else 1) ∧ 0 ≤ gsm f c k (fun _ => 1) (wys f k) := by
  by_cases q : (f (1 + k)).toInt = 3
  · rw [gsm_one_chance q, if_pos q]
    have h1 := h.1.2.2.2.2.1 k hk q
    refine ⟨h1, gw_nonneg _ (fun i hi => ?_)⟩
    have h3 := (h.r.2.1 k hk).2.2.1
    have h5 := (h.r.2.2 (3 * k + i) (by unfold wys at hi; omega)).2
    rw [← Nat.add_assoc] at h5
    exact h5.1
  · rw [gsm_one_player q, if_neg q]
    split <;> omega
end GM
/-- an end is come to in at most m moves -/
def RK (f c : Nat → Int32) : Nat → Nat → Prop
  | 0, k => (k : Int) < (f 0).toInt ∧ (f (1 + k)).toInt = 0
  | m + 1, k => RK f c m k ∨ ((k : Int) < (f 0).toInt ∧ ¬ (f (1 + k)).toInt = 0 ∧ ∃ j, ON f c k j ∧ RK f c m j)
def RC (f c : Nat → Int32) (k : Nat) : Prop := ∃ m, RK f c m k
theorem RC_closed (f c : Nat → Int32) : CL f c (RC f c) := fun k j h1 h2 h3 ⟨m, h4⟩ => ⟨m + 1, Or.inr ⟨h1, h2, j, h3, h4⟩⟩
theorem RC_of {f c : Nat → Int32} {x y : Int32} (hx : ∀ j : Nat, bt x j ↔ (j < (f 0).toInt.toNat ∧ (f (1 + j)).toInt = 0)) (h : LF f c x y ∧ CL f c (bt y)) (k : Nat) : bt y k ↔ RC f c k := by
  constructor
  · exact h.1.2 (RC f c) (fun j hj => ⟨0, by have := (hx j).mp hj; exact ⟨by omega, this.2⟩⟩) (RC_closed f c) k
  · rintro ⟨m, hm⟩
    induction m generalizing k with
    | zero => exact h.1.1 k ((hx k).mpr ⟨by have := hm.1; omega, hm.2⟩)
    | succ m ih =>
      rcases hm with hm | ⟨h1, h2, j, h3, h4⟩
      · exact ih k hm
      · exact h.2 k j h1 h2 h3 (ih j h4)
/-- how far an end is -/
theorem RC_rank (f c : Nat → Int32) : ∃ d : Nat → Nat, ∀ k, RC f c k → ¬ (f (1 + k)).toInt = 0 → 1 ≤ d k ∧ ∃ j, ON f c k j ∧ RC f c j ∧ d j + 1 ≤ d k := by
  have h : ∀ k, ∃ d : Nat, RC f c k → RK f c d k ∧ ∀ m, RK f c m k → d ≤ m := by
    intro k
    by_cases q : RC f c k
    · obtain ⟨m, hm⟩ := q
      induction m using Nat.strongRecOn with
      | _ m ih =>
        by_cases q2 : ∃ m2, m2 < m ∧ RK f c m2 k
        · obtain ⟨m2, h1, h2⟩ := q2
          exact ih m2 h1 h2
        · exact ⟨m, fun _ => ⟨hm, fun m3 h3 => Nat.le_of_not_lt fun h4 => q2 ⟨m3, h4, h3⟩⟩⟩
    · exact ⟨0, fun h => absurd h q⟩
  refine ⟨fun k => (h k).choose, fun k hk he => ?_⟩
  obtain ⟨h1, h2⟩ := (h k).choose_spec hk
  obtain ⟨m, hm⟩ : ∃ m, m = (h k).choose := ⟨_, rfl⟩
  rw [← hm] at h1 h2
  show 1 ≤ (h k).choose ∧ ∃ j, ON f c k j ∧ RC f c j ∧ (h j).choose + 1 ≤ (h k).choose
  rw [← hm]
  cases m with
  | zero => exact absurd h1.2 he
  | succ m =>
    rcases h1 with h1 | ⟨_, _, j, h3, h4⟩
    · have := h2 m h1; omega
    · have hj : RC f c j := ⟨m, h4⟩
      have := ((h j).choose_spec hj).2 m h4
      exact ⟨by omega, j, h3, hj, by omega⟩
