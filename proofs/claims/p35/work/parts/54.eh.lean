/-! the rows of a play can be solved -/
theorem eP_pE (A : Nat → Nat → Int) : ∀ N, eP A N = pE (fun i => A i i) N
  | 0 => rfl
  | N + 1 => by show eP A N * A N N = pE _ N * A N N; rw [eP_pE A N]
section EHS
variable {f c w : Nat → Int32} {N : Nat} {a b e : Int} {u : Nat → Int} {A : Nat → Nat → Int}
theorem gsm_le {k : Nat} {u v : Nat → Int} : ∀ m, (∀ i, i < m → 0 ≤ wwt f k i) → (∀ i, i < m → wsel f c k i → u (wtg f k i) ≤ v (wtg f k i)) → gsm f c k u m ≤ gsm f c k v m
  | 0, _, _ => Int.le_refl _
  | m + 1, hw, h => by
    show gsm f c k u m + _ ≤ gsm f c k v m + _
    have ih := gsm_le m (fun i hi => hw i (by omega)) (fun i hi => h i (by omega))
    by_cases q : wsel f c k m
    · rw [if_pos q, if_pos q]
      have := Int.mul_le_mul_of_nonneg_left (h m (by omega) q) (hw m (by omega))
      omega
    · rw [if_neg q, if_neg q]; omega
theorem gsm_zero {k : Nat} : ∀ m, gsm f c k (fun _ => 0) m = 0
  | 0 => rfl
  | m + 1 => by
    show gsm f c k _ m + _ = 0
    rw [gsm_zero m]
    by_cases q : wsel f c k m
    · rw [if_pos q]; show 0 + wwt f k m * 0 = 0; omega
    · rw [if_neg q]; omega
/-- what a row makes of numbers for the rows: numbers for the nodes -/
def Yw (w : Nat → Int32) (y : Nat → Rat) : Nat → Rat := fun t => if 0 ≤ (w t).toInt then y (w t).toInt.toNat else 0
theorem Yw1_le (t : Nat) : Yw w (fun _ => 1) t ≤ 1 := by
  unfold Yw
  split
  · exact Rat.le_refl
  · decide
theorem Yw1_nn (t : Nat) : 0 ≤ Yw w (fun _ => 1) t := by
  unfold Yw
  split
  · show (0 : Rat) ≤ 1; decide
  · exact Rat.le_refl
theorem p5_lt {d : Nat} (h : 1 ≤ d) : 0 < 1 - p5 d := by
  have h5 := p5_le h
  have h6 : p5 1 = 1 / 5 := rfl
  rw [h6] at h5
  grind
theorem p5_in (d : Nat) : 1 - p5 d ≤ 1 ∧ 0 ≤ 1 - p5 d := by
  have h5 := p5_pos d
  have h6 := p5_le (Nat.zero_le d)
  have h7 : p5 0 = 1 := rfl
  rw [h7] at h6
  constructor <;> grind
theorem gs_wn (hG : GS f) {k : Nat} (hk : k < 12) : ∀ i, i < wys f k → 0 ≤ wwt f k i := fun i hi => by have := (gs_w1 hG hk hi).1; omega
theorem MAT_sum (hG : GS f) (hR : RWI f c w (f 0).toInt.toNat N) (hM : MAT f c w N a b e u (f 0).toInt.toNat A) {k i : Nat} (hk : k < (f 0).toInt.toNat) (hw : (w k).toInt = (i : Int)) (y : Nat → Rat) :
    pm_s N (eA A) y i = (a : Rat) * gsR f c k (fun _ => 1) (wys f k) * y i - (b : Rat) * gsR f c k (Yw w y) (wys f k) := by
  have h0 := hG.r.1
  have hN := (hR.1 k hk).2
  have hA := hM k hk (by omega)
  rw [show (w k).toInt.toNat = i by omega] at hA
  have hp := gsR_pick (f := f) (c := c) (w := w) (k := k) (N := N) y (wys f k) (fun i2 hi2 => by
    have h1 := (gs_w1 hG (k := k) (by omega) hi2).2.2.1
    exact (hR.1 _ (by omega)).2)
  have hd := pz_m_delta y ((a : Rat) * gsR f c k (fun _ => 1) (wys f k)) i N
  rw [if_pos (by omega)] at hd
  unfold pm_s
  rw [pz_m_congr N (v := fun j => (-(b : Rat)) * (gsR f c k (fun t => (((if (w t).toInt = (j : Int) then 1 else 0 : Int) : Int) : Rat)) (wys f k) * y j) + (if i = j then (a : Rat) * gsR f c k (fun _ => 1) (wys f k) else 0) * y j) (fun j hj => ?_), pz_m_lin, hp, hd]
  · unfold Yw; grind
  · show (A i j : Rat) * y j = _
    rw [hA j (by omega)]
    unfold arow
    rw [if_neg (by omega), Rat.intCast_sub, Rat.intCast_mul, gsR_cast]
    by_cases q : i = j
    · rw [if_pos (by omega), if_pos q, Rat.intCast_mul, gsR_cast]
      show ((a : Rat) * gsR f c k (fun _ => ((1 : Int) : Rat)) (wys f k) - _) * y j = _
      rw [show ((1 : Int) : Rat) = 1 from rfl]
      grind
    · rw [if_neg (by omega), if_neg q, show ((0 : Int) : Rat) = 0 from rfl]
      grind
theorem gs_allR (hG : GS f) {k : Nat} (hk : k < 12) : gsR f c k (fun _ => 1) (wys f k) ≤ 4 ∧ 0 ≤ gsR f c k (fun _ => 1) (wys f k) := by
  have h := gs_all (c := c) hG hk
  have e := gsR_cast (f := f) (c := c) (k := k) (fun _ => 1) (wys f k)
  rw [show ((1 : Int) : Rat) = 1 from rfl] at e
  rw [← e]
  have h4 : gsm f c k (fun _ => 1) (wys f k) ≤ 4 := by
    have := h.1
    split at this <;> omega
  exact ⟨by exact_mod_cast h4, by exact_mod_cast h.2⟩
theorem MAT_EH (hG : GS f) (hR : RWI f c w (f 0).toInt.toNat N) (hM : MAT f c w N a b e u (f 0).toInt.toNat A) (ha : 1 ≤ a ∧ a ≤ 5) (hb : 0 ≤ b ∧ b ≤ a) : EH N A := by
  have h0 := hG.r.1
  have haR : (0 : Rat) < (a : Rat) := by exact_mod_cast (by omega : (0 : Int) < a)
  have hbR : (0 : Rat) ≤ (b : Rat) := by exact_mod_cast hb.1
  have hbaR : (b : Rat) ≤ (a : Rat) := by exact_mod_cast hb.2
  refine ⟨fun i j hi hj hij => ?_, ?_, fun i hi => ?_, ?_⟩
  · obtain ⟨k, hk, e1⟩ := hR.2.1 i hi
    have hA := hM k hk (by omega) j (by omega)
    rw [show (w k).toInt.toNat = i by omega] at hA
    rw [hA]
    unfold arow
    rw [if_neg (by omega), if_neg (by omega)]
    have h1 := gsm_le (f := f) (c := c) (k := k) (u := fun _ => 0) (v := fun t => if (w t).toInt = (j : Int) then 1 else 0) (wys f k) (gs_wn hG (by omega)) (fun i _ _ => by split <;> omega)
    rw [gsm_zero] at h1
    have := Int.mul_nonneg hb.1 h1
    omega
  · obtain ⟨d, hd⟩ := RC_rank f c
    have hx : ∀ j, ∃ r : Nat, j < N → r < (f 0).toInt.toNat ∧ (w r).toInt = (j : Int) := fun j => by
      by_cases q : j < N
      · obtain ⟨k, hk, e1⟩ := hR.2.1 j q
        exact ⟨k, fun _ => ⟨hk, e1⟩⟩
      · exact ⟨0, fun z => absurd z q⟩
    have hrw : ∀ t, t < (f 0).toInt.toNat → 0 ≤ (w t).toInt → (hx (w t).toInt.toNat).choose = t := fun t ht hw => by
      have h1 := (hR.1 t ht).2
      obtain ⟨h2, h3⟩ := (hx (w t).toInt.toNat).choose_spec (by omega)
      exact hR.2.2.1 _ _ h2 ht (by omega) (by omega)
    refine ⟨fun j => 1 - p5 (d (hx j).choose), fun j hj => ?_, fun i hi => ?_⟩
    · obtain ⟨h2, h3⟩ := (hx j).choose_spec hj
      have hS := (hR.1 _ h2).1.mp (by omega)
      obtain ⟨h4, _⟩ := hd _ hS.2 hS.1
      exact p5_lt h4
    · obtain ⟨k, hk, e1⟩ := hR.2.1 i hi
      rw [MAT_sum hG hR hM hk e1]
      have ek := hrw k hk (by omega)
      rw [show (w k).toInt.toNat = i by omega] at ek
      have hS := (hR.1 k hk).1.mp (by omega)
      obtain ⟨h4, j, ⟨i0, hi0, hsel, hto⟩, hRj, hdj⟩ := hd k hS.2 hS.1
      have hi0w : i0 < wys f k := by unfold wys; omega
      have hjw : wtg f k i0 = j := by unfold wtg; omega
      have hjn := (gs_w1 hG (k := k) (by omega) hi0w).2.2.1
      have hle1 : ∀ t, t < (f 0).toInt.toNat → Yw w (fun j => 1 - p5 (d (hx j).choose)) t ≤ 1 ∧ 0 ≤ Yw w (fun j => 1 - p5 (d (hx j).choose)) t := fun t ht => by
        unfold Yw
        by_cases q : 0 ≤ (w t).toInt
        · rw [if_pos q]
          exact p5_in _
        · rw [if_neg q]; constructor <;> decide
      have hq := p5_pos (d k - 1)
      have hgap := gsR_gap (f := f) (c := c) (k := k) (u := Yw w (fun j => 1 - p5 (d (hx j).choose))) (e := p5 (d k - 1)) (i0 := i0) (Rat.le_of_lt hq) hsel (wys f k) hi0w (fun i2 hi2 => (gs_w1 hG (by omega) hi2).1) (fun i2 hi2 _ => (hle1 _ (by have := (gs_w1 hG (k := k) (by omega) hi2).2.2.1; omega)).1) (by
        rw [hjw]
        rw [hjw] at hjn
        unfold Yw
        by_cases q : 0 ≤ (w j).toInt
        · rw [if_pos q]
          show 1 - p5 (d (hx (w j).toInt.toNat).choose) ≤ 1 - p5 (d k - 1)
          rw [hrw j (by omega) q]
          have := p5_le (show d j ≤ d k - 1 by omega)
          clear hM hR hG hle1 hrw hd ek hx
          grind
        · rw [if_neg q]
          exact (p5_in (d k - 1)).2)
      have hnn := gsR_le (f := f) (c := c) (k := k) (u := fun _ => 0) (v := Yw w (fun j => 1 - p5 (d (hx j).choose))) (wys f k) (gs_wn hG (by omega)) (fun i2 hi2 _ => (hle1 _ (by have := (gs_w1 hG (k := k) (by omega) hi2).2.2.1; omega)).2)
      rw [gsR_zero] at hnn
      have hall := gs_allR (c := c) hG (k := k) (by omega)
      rw [ek]
      generalize gsR f c k (Yw w (fun j => 1 - p5 (d (hx j).choose))) (wys f k) = Z at hgap hnn ⊢
      generalize gsR f c k (fun _ => 1) (wys f k) = all at hgap hall ⊢
      have h5 : p5 (d k) = p5 (d k - 1) / 5 := by rw [show d k = (d k - 1) + 1 by omega]; rfl
      rw [h5]
      generalize p5 (d k - 1) = q at hq hgap ⊢
      clear hle1 hrw hd ek hx hM hR hG
      have m1 := Rat.mul_le_mul_of_nonneg_right (c := Z) hbaR hnn
      have m2 := Rat.mul_le_mul_of_nonneg_left (c := (a : Rat)) hgap (Rat.le_of_lt haR)
      have m3 := Rat.mul_le_mul_of_nonneg_right (c := q) hall.1 (Rat.le_of_lt hq)
      have m4 : (a : Rat) * (all * q) ≤ (a : Rat) * (4 * q) := Rat.mul_le_mul_of_nonneg_left m3 (Rat.le_of_lt haR)
      have m5 : 0 < (a : Rat) * q := Rat.mul_pos haR hq
      grind
  · obtain ⟨k, hk, e1⟩ := hR.2.1 i hi
    rw [MAT_sum hG hR hM hk e1]
    have hall := gs_allR (c := c) hG (k := k) (by omega)
    have h1 := gsR_le (f := f) (c := c) (k := k) (u := Yw w (fun _ => 1)) (v := fun _ => 1) (wys f k) (gs_wn hG (by omega)) (fun i2 hi2 _ => Yw1_le _)
    have h2 := gsR_le (f := f) (c := c) (k := k) (u := fun _ => 0) (v := Yw w (fun _ => 1)) (wys f k) (gs_wn hG (by omega)) (fun i2 hi2 _ => Yw1_nn _)
    rw [gsR_zero] at h2
    generalize gsR f c k (Yw w (fun _ => 1)) (wys f k) = Z at h1 h2 ⊢
    generalize gsR f c k (fun _ => 1) (wys f k) = all at h1 hall ⊢
    clear hM hR hG
    have m1 := Rat.mul_le_mul_of_nonneg_right (c := Z) hbaR h2
    have m2 := Rat.mul_le_mul_of_nonneg_left (c := (a : Rat)) h1 (Rat.le_of_lt haR)
    grind
  · rw [eP_pE]
    refine Int.le_trans (hR.2.2.2.2 (fun i => A i i) (fun k hk hw => ?_)) (PD_le hG)
    have hN := (hR.1 k hk).2
    have hA := hM k hk hw (w k).toInt.toNat (by omega)
    show 0 ≤ A _ _ ∧ A _ _ ≤ _
    rw [hA]
    unfold arow
    rw [if_neg (by omega), if_pos (by omega)]
    have hall := gs_all (c := c) hG (k := k) (by omega)
    have h1 := gsm_le (f := f) (c := c) (k := k) (u := fun _ => 0) (v := fun t => if (w t).toInt = (((w k).toInt.toNat : Nat) : Int) then 1 else 0) (wys f k) (gs_wn hG (by omega)) (fun i _ _ => by split <;> omega)
    have h2 := gsm_le (f := f) (c := c) (k := k) (u := fun t => if (w t).toInt = (((w k).toInt.toNat : Nat) : Int) then 1 else 0) (v := fun _ => 1) (wys f k) (gs_wn hG (by omega)) (fun i _ _ => by split <;> omega)
    rw [gsm_zero] at h1
    generalize gsm f c k (fun t => if (w t).toInt = (((w k).toInt.toNat : Nat) : Int) then 1 else 0) (wys f k) = Z at h1 h2 ⊢
    have m1 : b * Z ≤ a * Z := Int.mul_le_mul_of_nonneg_right hb.2 h1
    have m2 : a * Z ≤ a * gsm f c k (fun _ => 1) (wys f k) := Int.mul_le_mul_of_nonneg_left h2 (by omega)
    have m3 := Int.mul_nonneg hb.1 h1
    unfold DK
    by_cases q : (f (1 + k)).toInt = 3
    · rw [if_pos q] at hall
      rw [if_pos q]
      have m4 : a * gsm f c k (fun _ => 1) (wys f k) ≤ 5 * 4 := Int.mul_le_mul ha.2 hall.1 hall.2 (by omega)
      omega
    · rw [if_neg q] at hall
      rw [if_neg q]
      have m4 : a * gsm f c k (fun _ => 1) (wys f k) ≤ 5 * 1 := Int.mul_le_mul ha.2 hall.1 hall.2 (by omega)
      omega
/-- the last column lies within 9 rows' sums, where nothing is added by a move -/
theorem MAT_LOK (hG : GS f) (hR : RWI f c w (f 0).toInt.toNat N) (hM : MAT f c w N a b 0 u (f 0).toInt.toNat A) (hb : 0 ≤ b ∧ b ≤ a) (hu : ∀ t, t < (f 0).toInt.toNat → 0 ≤ u t ∧ u t ≤ 9) : LOK N A := by
  intro i hi
  have h0 := hG.r.1
  have hbR : (0 : Rat) ≤ (b : Rat) := by exact_mod_cast hb.1
  have hbaR : (b : Rat) ≤ (a : Rat) := by exact_mod_cast hb.2
  obtain ⟨k, hk, e1⟩ := hR.2.1 i hi
  rw [MAT_sum hG hR hM hk e1]
  have hA := hM k hk (by omega) N (Nat.le_refl _)
  rw [show (w k).toInt.toNat = i by omega] at hA
  unfold arow at hA
  rw [if_pos rfl, Int.zero_mul, Int.add_zero] at hA
  have hAR : eA A i N = (b : Rat) * gsR f c k (fun t => ((if (w t).toInt < 0 then u t else 0 : Int) : Rat)) (wys f k) := by
    show ((A i N : Int) : Rat) = _
    rw [hA, Rat.intCast_mul, gsR_cast]
  rw [hAR]
  have hall := gs_allR (c := c) hG (k := k) (by omega)
  have htn : ∀ i2, i2 < wys f k → wtg f k i2 < (f 0).toInt.toNat := fun i2 hi2 => by have := (gs_w1 hG (k := k) (by omega) hi2).2.2.1; omega
  have h1 := gsR_le (f := f) (c := c) (k := k) (u := fun t => ((if (w t).toInt < 0 then u t else 0 : Int) : Rat)) (v := fun t => (-9) * Yw w (fun _ => 1) t + 9) (wys f k) (gs_wn hG (by omega)) (fun i2 hi2 _ => by
    have h3 := hu _ (htn i2 hi2)
    unfold Yw
    by_cases q : 0 ≤ (w (wtg f k i2)).toInt
    · rw [if_pos q, if_neg (by omega)]
      show ((0 : Int) : Rat) ≤ -9 * 1 + 9
      rw [show ((0 : Int) : Rat) = 0 from rfl]
      clear hM hR hG hu htn
      grind
    · rw [if_neg q, if_pos (by omega)]
      have : ((u (wtg f k i2) : Int) : Rat) ≤ ((9 : Int) : Rat) := by exact_mod_cast h3.2
      rw [show ((9 : Int) : Rat) = 9 from rfl] at this
      clear hM hR hG hu htn
      grind)
  have h2 := gsR_le (f := f) (c := c) (k := k) (u := fun _ => 0) (v := fun t => ((if (w t).toInt < 0 then u t else 0 : Int) : Rat)) (wys f k) (gs_wn hG (by omega)) (fun i2 hi2 _ => by
    have h3 := hu _ (htn i2 hi2)
    split
    · exact_mod_cast h3.1
    · decide)
  have h3 := gsR_le (f := f) (c := c) (k := k) (u := Yw w (fun _ => 1)) (v := fun _ => 1) (wys f k) (gs_wn hG (by omega)) (fun i2 hi2 _ => Yw1_le _)
  rw [gsR_lin] at h1
  rw [gsR_zero] at h2
  have h9 : gsR f c k (fun _ => 9) (wys f k) = 9 * gsR f c k (fun _ => 1) (wys f k) := by
    have := gsR_lin (f := f) (c := c) (k := k) 9 (fun _ => 1) (fun _ => 0) (wys f k)
    rw [gsR_zero] at this
    rw [show (fun (_ : Nat) => (9 : Rat)) = (fun _ => 9 * 1 + 0) from funext (fun _ => by grind), this]
    grind
  rw [h9] at h1
  generalize gsR f c k (fun t => ((if (w t).toInt < 0 then u t else 0 : Int) : Rat)) (wys f k) = X at h1 h2 ⊢
  generalize gsR f c k (Yw w (fun _ => 1)) (wys f k) = Z at h1 h3 ⊢
  generalize gsR f c k (fun _ => 1) (wys f k) = all at h1 h3 hall ⊢
  clear hM hR hG hu htn
  have m1 := Rat.mul_le_mul_of_nonneg_left (c := (b : Rat)) h1 hbR
  have m2 := Rat.mul_le_mul_of_nonneg_right (c := all) hbaR hall.2
  have m3 := Rat.mul_nonneg hbR h2
  constructor <;> grind
end EHS
