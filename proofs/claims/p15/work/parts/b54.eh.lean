/-! the rows of a play can be solved -/
theorem eP_pE (A : Nat → Nat → Int) : ∀ N, eP A N = pE (fun i => A i i) N
  | 0 => rfl
  | N + 1 => by show eP A N * A N N = pE _ N * A N N; rw [eP_pE A N]
section EHS
variable {f c w : Nat → Int32} {N : Nat} {a b e : Int} {u : Nat → Int} {A : Nat → Nat → Int}
theorem gsm_le {k : Nat} {u v : Nat → Int} : ∀ m, (∀ i, i < m → 0 ≤ wwt f k i) → (∀ i, i < m → wsel f c k i → u (wtg f k i) ≤ v (wtg f k i)) → gsm f c k u m ≤ gsm f c k v m
  | 0, _, _ => Int.le_refl _
  | m + 1, hw, h => by
    show gsm f c k u m + _ ≤ gsm f c k v m + _
    have ih := gsm_le m (fun i hi => hw i (by omega)) (fun i hi => h i (by omega))
    by_cases q : wsel f c k m
    · rw [if_pos q, if_pos q]
      have := Int.mul_le_mul_of_nonneg_left (h m (by omega) q) (hw m (by omega))
      omega
    · rw [if_neg q, if_neg q]; omega
theorem gsm_zero {k : Nat} : ∀ m, gsm f c k (fun _ => 0) m = 0
  | 0 => rfl
  | m + 1 => by
    show gsm f c k _ m + _ = 0
    rw [gsm_zero m]
    by_cases q : wsel f c k m
    · rw [if_pos q]; show 0 + wwt f k m * 0 = 0; omega
    · rw [if_neg q]; omega
/-- what a row makes of numbers for the rows: numbers for the nodes -/
def Yw (w : Nat → Int32) (y : Nat → Rat) : Nat → Rat := fun t => if 0 ≤ (w t).toInt then y (w t).toInt.toNat else 0
theorem Yw1_le (t : Nat) : Yw w (fun _ => 1) t ≤ 1 := by
  unfold Yw
  split
  · exact Rat.le_refl
  · decide
theorem Yw1_nn (t : Nat) : 0 ≤ Yw w (fun _ => 1) t := by
  unfold Yw
  split
  · show (0 : Rat) ≤ 1; decide
  · exact Rat.le_refl
theorem p5_lt {d : Nat} (h : 1 ≤ d) : 0 < 1 - p5 d := by
  have h5 := p5_le h
  have h6 : p5 1 = 1 / 5 := rfl
  rw [h6] at h5
  grind
theorem p5_in (d : Nat) : 1 - p5 d ≤ 1 ∧ 0 ≤ 1 - p5 d := by
  have h5 := p5_pos d
  have h6 := p5_le (Nat.zero_le d)
  have h7 : p5 0 = 1 := rfl
  rw [h7] at h6
  constructor <;> grind
theorem gs_wn (hG : GS f) {k : Nat} (hk : k < 12) : ∀ i, i < wys f k → 0 ≤ wwt f k i := fun i hi => by have := (gs_w1 hG hk hi).1; omega
theorem MAT_sum (hG : GS f) (hR : RWI f c w (f 0).toInt.toNat N) (hM : MAT f c w N a b e u (f 0).toInt.toNat A) {k i : Nat} (hk : k < (f 0).toInt.toNat) (hw : (w k).toInt = (i : Int)) (y : Nat → Rat) :
    pm_s N (eA A) y i = (a : Rat) * gsR f c k (fun _ => 1) (wys f k) * y i - (b : Rat) * gsR f c k (Yw w y) (wys f k) := by
  have h0 := hG.r.1
  have hN := (hR.1 k hk).2
  have hA := hM k hk (by omega)
  rw [show (w k).toInt.toNat = i by omega] at hA
  have hp := gsR_pick (f := f) (c := c) (w := w) (k := k) (N := N) y (wys f k) (fun i2 hi2 => by
    have h1 := (gs_w1 hG (k := k) (by omega) hi2).2.2.1
    exact (hR.1 _ (by omega)).2)
  have hd := pz_m_delta y ((a : Rat) * gsR f c k (fun _ => 1) (wys f k)) i N
  rw [if_pos (by omega)] at hd
  unfold pm_s
  rw [pz_m_congr N (v := fun j => (-(b : Rat)) * (gsR f c k (fun t => (((if (w t).toInt = (j : Int) then 1 else 0 : Int) : Int) : Rat)) (wys f k) * y j) + (if i = j then (a : Rat) * gsR f c k (fun _ => 1) (wys f k) else 0) * y j) (fun j hj => ?_), pz_m_lin, hp, hd]
  · unfold Yw; grind
  · show (A i j : Rat) * y j = _
    rw [hA j (by omega)]
    unfold arow
    rw [if_neg (by omega), Rat.intCast_sub, Rat.intCast_mul, gsR_cast]
    by_cases q : i = j
    · rw [if_pos (by omega), if_pos q, Rat.intCast_mul, gsR_cast]
      show ((a : Rat) * gsR f c k (fun _ => ((1 : Int) : Rat)) (wys f k) - _) * y j = _
      rw [show ((1 : Int) : Rat) = 1 from rfl]
      grind
    · rw [if_neg (by omega), if_neg q, show ((0 : Int) : Rat) = 0 from rfl]
      grind
theorem gs_allR (hG : GS f) {k : Nat} (hk : k < 12) : gsR f c k (fun _ => 1) (wys f k) ≤ 4 ∧ 0 ≤ gsR f c k (fun _ => 1) (wys f k) := by
  have h := gs_all (c := c) hG hk
  have e := gsR_cast (f := f) (c := c) (k := k) (fun _ => 1) (wys f k)
  rw [show ((1 : Int) : Rat) = 1 from rfl] at e
  rw [← e]
  have h4 : gsm f c k (fun _ => 1) (wys f k) ≤ 4 := by
    have := h.1
    split at this <;> omega
  exact ⟨by exact_mod_cast h4, by exact_mod_cast h.2⟩
theorem MAT_EH (hG : GS f) (hR : RWI f c w (f 0).toInt.toNat N) (hM : MAT f c w N a b e u (f 0).toInt.toNat A) (ha : 1 ≤ a ∧ a ≤ 5) (hb : 0 ≤ b ∧ b ≤ a) : EH N A := by
  have h0 := hG.r.1
  have haR : (0 : Rat) < (a : Rat) := by exact_mod_cast (by omega : (0 : Int) < a)
  have hbR : (0 : Rat) ≤ (b : Rat) := by exact_mod_cast hb.1
  have hbaR : (b : Rat) ≤ (a : Rat) := by exact_mod_cast hb.2
  refine ⟨fun i j hi hj hij => ?_, ?_, fun i hi => ?_, ?_⟩
  · obtain ⟨k, hk, e1⟩ := hR.2.1 i hi
    have hA := hM k hk (by omega) j (by omega)
    rw [show (w k).toInt.toNat = i by omega] at hA
    rw [hA]
    unfold arow
    rw [if_neg (by omega), if_neg (by omega)]
    have h1 := gsm_le (f := f) (c := c) (k := k) (u := fun _ => 0) (v := fun t => if (w t).toInt = (j : Int) then 1 else 0) (wys f k) (gs_wn hG (by omega)) (fun i _ _ => by split <;> omega)
    rw [gsm_zero] at h1
    have := Int.mul_nonneg hb.1 h1
    omega
  · obtain ⟨d, hd⟩ := RC_rank f c
    have hx : ∀ j, ∃ r : Nat, j < N → r < (f 0).toInt.toNat ∧ (w r).toInt = (j : Int) := fun j => by
      by_cases q : j < N
      · obtain ⟨k, hk, e1⟩ := hR.2.1 j q
        exact ⟨k, fun _ => ⟨hk, e1⟩⟩
      · exact ⟨0, fun z => absurd z q⟩
    have hrw : ∀ t, t < (f 0).toInt.toNat → 0 ≤ (w t).toInt → (hx (w t).toInt.toNat).choose = t := fun t ht hw => by
      have h1 := (hR.1 t ht).2
      obtain ⟨h2, h3⟩ := (hx (w t).toInt.toNat).choose_spec (by omega)
      exact hR.2.2.1 _ _ h2 ht (by omega) (by omega)
    refine ⟨fun j => 1 - p5 (d (hx j).choose), fun j hj => ?_, fun i hi => ?_⟩
    · obtain ⟨h2, h3⟩ := (hx j).choose_spec hj
      have hS := (hR.1 _ h2).1.mp (by omega)
      obtain ⟨h4, _⟩ := hd _ hS.2 hS.1
      exact p5_lt h4
    · obtain ⟨k, hk, e1⟩ := hR.2.1 i hi
      rw [MAT_sum hG hR hM hk e1]
      have ek := hrw k hk (by omega)
      rw [show (w k).toInt.toNat = i by omega] at ek
      have hS := (hR.1 k hk).1.mp (by omega)
      obtain ⟨h4, j, ⟨i0, hi0, hsel, hto⟩, hRj, hdj⟩ := hd k hS.2 hS.1
      have hi0w : i0 < wys f k := by unfold wys; omega
      have hjw : wtg f k i0 = j := by unfold wtg; omega
      have hjn := (gs_w1 hG (k := k) (by omega) hi0w).2.2.1
      have hle1 : ∀ t, t < (f 0).toInt.toNat → Yw w (fun j => 1 - p5 (d (hx j).choose)) t ≤ 1 ∧ 0 ≤ Yw w (fun j => 1 - p5 (d (hx j).choose)) t := fun t ht => by
        unfold Yw
        by_cases q : 0 ≤ (w t).toInt
        · rw [if_pos q]
          exact p5_in _
        · rw [if_neg q]; constructor <;> decide
      have hq := p5_pos (d k - 1)
      have hgap := gsR_gap (f := f) (c := c) (k := k) (u := Yw w (fun j => 1 - p5 (d (hx j).choose))) (e := p5 (d k - 1)) (i0 := i0) (Rat.le_of_lt hq) hsel (wys f k) hi0w (fun i2 hi2 => (gs_w1 hG (by omega) hi2).1) (fun i2 hi2 _ => (hle1 _ (by have := (gs_w1 hG (k := k) (by omega) hi2).2.2.1; omega)).1) (by
        rw [hjw]
        rw [hjw] at hjn
        unfold Yw
        by_cases q : 0 ≤ (w j).toInt
        · rw [if_pos q]
          show 1 - p5 (d (hx (w j).toInt.toNat).choose) ≤ 1 - p5 (d k - 1)
          rw [hrw j (by omega) q]
          have := p5_le (show d j ≤ d k - 1 by omega)
          clear hM hR hG hle1 hrw hd ek hx
          grind
        · rw [if_neg q]
          exact (p5_in (d k - 1)).2)
      have hnn := gsR_le (f := f) (c := c) (k := k) (u := fun _ => 0) (v := Yw w (fun j => 1 - p5 (d (hx j).choose))) (wys f k) (gs_wn hG (by omega)) (fun i2 hi2 _ => (hle1 _ (by have := (gs_w1 hG (k := k) (by omega) hi2).2.2.1; omega)).2)
      rw [gsR_zero] at hnn
      have hall := gs_allR (c := c) hG (k := k) (by omega)
      rw [ek]
      generalize gsR f c k (Yw w (fun j => 1 - p5 (d (hx j).choose))) (wys f k) = Z at hgap hnn ⊢
      generalize gsR f c k (fun _ => 1) (wys f k) = all at hgap hall ⊢
      have h5 : p5 (d k) = p5 (d k - 1) / 5 := by rw [show d k = (d k - 1) + 1 by omega]; rfl
      rw [h5]
      generalize p5 (d k - 1) = q at hq hgap ⊢
      clear hle1 hrw hd ek hx hM hR hG
      have m1 := Rat.mul_le_mul_of_nonneg_right (c := Z) hbaR hnn
      have m2 := Rat.mul_le_mul_of_nonneg_left (c := (a : Rat)) hgap (Rat.le_of_lt haR)
      have m3 := Rat.mul_le_mul_of_nonneg_right (c := q) hall.1 (Rat.le_of_lt hq)
      have m4 : (a : Rat) * (all * q) ≤ (a : Rat) * (4 * q) := Rat.mul_le_mul_of_nonneg_left m3 (Rat.le_of_lt haR)
      have m5 : 0 < (a : Rat) * q := Rat.mul_pos haR hq
      grind
  · obtain ⟨k, hk, e1⟩ := hR.2.1 i hi
    rw [MAT_sum hG hR hM hk e1]
    have hall := gs_allR (c := c) hG (k := k) (by omega)
    have h1 := gsR_le (f := f) (c := c) (k := k) (u := Yw w (fun _ => 1)) (v := fun _ => 1) (wys f k) (gs_wn hG (by omega)) (fun i2 hi2 _ => Yw1_le _)
    have h2 := gsR_le (f := f) (c := c) (k := k) (u := fun _ => 0) (v := Yw w (fun _ => 1)) (wys f k) (gs_wn hG (by omega)) (fun i2 hi2 _ => Yw1_nn _)
    rw [gsR_zero] at h2
    generalize gsR f c k (Yw w (fun _ => 1)) (wys f k) = Z at h1 h2 ⊢
    generalize gsR f c k (fun _ => 1) (wys f k) = all at h1 hall ⊢
    clear hM hR hG
    have m1 := Rat.mul_le_mul_of_nonneg_right (c := Z) hbaR h2
    have m2 := Rat.mul_le_mul_of_nonneg_left (c := (a : Rat)) h1 (Rat.le_of_lt haR)
    grind
  · rw [eP_pE]
    refine Int.le_trans (hR.2.2.2.2 (fun i => A i i) (fun k hk hw => ?_)) (PD_le hG)
    have hN := (hR.1 k hk).2
    have hA := hM k hk hw (w k).toInt.toNat (by omega)
    show 0 ≤ A _ _ ∧ A _ _ ≤ _
    rw [hA]
    unfold arow
    rw [if_neg (by omega), if_pos (by omega)]
    have hall := gs_all (c := c) hG (k := k) (by omega)
    have h1 := gsm_le (f := f) (c := c) (k := k) (u := fun _ => 0) (v := fun t => if (w t).toInt = (((w k).toInt.toNat : Nat) : Int) then 1 else 0) (wys f k) (gs_wn hG (by omega)) (fun i _ _ => by split <;> omega)
    have h2 := gsm_le (f := f) (c := c) (k := k) (u := fun t => if (w t).toInt = (((w k).toInt.toNat : Nat) : Int) then 1 else 0) (v := fun _ => 1) (wys f k) (gs_wn hG (by omega)) (fun i _ _ => by split <;> omega)
    rw [gsm_zero] at h1
    generalize gsm f c k (fun t => if (w t).toInt = (((w k).toInt.toNat : Nat) : Int) then 1 else 0) (wys f k) = Z at h1 h2 ⊢
    have m1 : b * Z ≤ a * Z := Int.mul_le_mul_of_nonneg_right hb.2 h1
    have m2 : a * Z ≤ a * gsm f c k (fun _ => 1) (wys f k) := Int.mul_le_mul_of_nonneg_left h2 (by omega)
    have m3 := Int.mul_nonneg hb.1 h1
    unfold DK
    by_cases q : (f (1 + k)).toInt = 3
    · rw [if_pos q] at hall
      rw [if_pos q]
      have m4 : a * gsm f c k (fun _ => 1) (wys f k) ≤ 5 * 4 := Int.mul_le_mul ha.2 hall.1 hall.2 (by omega)
      omega
    · rw [if_neg q] at hall
      rw [if_neg q]
      have m4 : a * gsm f c k (fun _ => 1) (wys f k) ≤ 5 * 1 := Int.mul_le_mul ha.2 hall.1 hall.2 (by omega)
      omega
/-- the last column lies within 9 rows' sums, where nothing is added by a move -/
theorem MAT_LOK (hG : GS f) (hR : RWI f c w (f 0).toInt.toNat N) (hM : MAT f c w N a b 0 u (f 0).toInt.toNat A) (hb : 0 ≤ b ∧ b ≤ a) (hu : ∀ t, t < (f 0).toInt.toNat → 0 ≤ u t ∧ u t ≤ 9) : LOK N A := by
  intro i hi
  have h0 := hG.r.1
  have hbR : (0 : Rat) ≤ (b : Rat) := by exact_mod_cast hb.1
  have hbaR : (b : Rat) ≤ (a : Rat) := by exact_mod_cast hb.2
  obtain ⟨k, hk, e1⟩ := hR.2.1 i hi
  rw [MAT_sum hG hR hM hk e1]
  have hA := hM k hk (by omega) N (Nat.le_refl _)
  rw [show (w k).toInt.toNat = i by omega] at hA
  unfold arow at hA
  rw [if_pos rfl, Int.zero_mul, Int.add_zero] at hA
  have hAR : eA A i N = (b : Rat) * gsR f c k (fun t => ((if (w t).toInt < 0 then u t else 0 : Int) : Rat)) (wys f k) := by
    show ((A i N : Int) : Rat) = _
    rw [hA, Rat.intCast_mul, gsR_cast]
  rw [hAR]
  have hall := gs_allR (c := c) hG (k := k) (by omega)
  have htn : ∀ i2, i2 < wys f k → wtg f k i2 < (f 0).toInt.toNat := fun i2 hi2 => by have := (gs_w1 hG (k := k) (by omega) hi2).2.2.1; omega
  have h1 := gsR_le (f := f) (c := c) (k := k) (u := fun t => ((if (w t).toInt < 0 then u t else 0 : Int) : Rat)) (v := fun t => (-9) * Yw w (fun _ => 1) t + 9) (wys f k) (gs_wn hG (by omega)) (fun i2 hi2 _ => by
    have h3 := hu _ (htn i2 hi2)
    unfold Yw
    by_cases q : 0 ≤ (w (wtg f k i2)).toInt
    · rw [if_pos q, if_neg (by omega)]
      show ((0 : Int) : Rat) ≤ -9 * 1 + 9
      rw [show ((0 : Int) : Rat) = 0 from rfl]
      clear hM hR hG hu htn
      grind
    · rw [if_neg q, if_pos (by omega)]
      have : ((u (wtg f k i2) : Int) : Rat) ≤ ((9 : Int) : Rat) := by exact_mod_cast h3.2
      rw [show ((9 : Int) : Rat) = 9 from rfl] at this
      clear hM hR hG hu htn
      grind)
  have h2 := gsR_le (f := f) (c := c) (k := k) (u := fun _ => 0) (v := fun t => ((if (w t).toInt < 0 then u t else 0 : Int) : Rat)) (wys f k) (gs_wn hG (by omega)) (fun i2 hi2 _ => by
    have h3 := hu _ (htn i2 hi2)
    split
    · exact_mod_cast h3.1
    · decide)
  have h3 := gsR_le (f := f) (c := c) (k := k) (u := Yw w (fun _ => 1)) (v := fun _ => 1) (wys f k) (gs_wn hG (by omega)) (fun i2 hi2 _ => Yw1_le _)
  rw [gsR_lin] at h1
  rw [gsR_zero] at h2
  have h9 : gsR f c k (fun _ => 9) (wys f k) = 9 * gsR f c k (fun _ => 1) (wys f k) := by
    have := gsR_lin (f := f) (c := c) (k := k) 9 (fun _ => 1) (fun _ => 0) (wys f k)
    rw [gsR_zero] at this
    rw [show (fun (_ : Nat) => (9 : Rat)) = (fun _ => 9 * 1 + 0) from funext (fun _ => by grind), this]
    grind
  rw [h9] at h1
  generalize gsR f c k (fun t => ((if (w t).toInt < 0 then u t else 0 : Int) : Rat)) (wys f k) = X at h1 h2 ⊢
  generalize gsR f c k (Yw w (fun _ => 1)) (wys f k) = Z at h1 h3 ⊢
  generalize gsR f c k (fun _ => 1) (wys f k) = all at h1 h3 hall ⊢
  clear hM hR hG hu htn
  have m1 := Rat.mul_le_mul_of_nonneg_left (c := (b : Rat)) h1 hbR
  have m2 := Rat.mul_le_mul_of_nonneg_right (c := all) hbaR hall.2
  have m3 := Rat.mul_nonneg hbR h2
  constructor <;> grind
end EHS
/-! what a play is worth: it is there, it is one alone, it is none below 0 -/
theorem pm_s_lin {n : Nat} (A : Nat → Nat → Rat) (r : Rat) (y z : Nat → Rat) (i : Nat) : pm_s n A (fun j => r * y j + z j) i = r * pm_s n A y i + pm_s n A z i := by
  unfold pm_s
  rw [← pz_m_lin]
  exact pz_m_congr n (fun j _ => by grind)
theorem EH.nonneg {n : Nat} {A : Nat → Nat → Int} (h : EH n A) (hb : ∀ i, i < n → 0 ≤ A i n) : ∀ i, i < n → 0 ≤ eX A n i n := by
  intro i hi
  refine Int.not_lt.mp fun hlt => ?_
  obtain ⟨z, hz, hz2⟩ := h.x
  obtain ⟨k, hk, hmax⟩ := pz_max (fun j => -((eX A n j n : Int) : Rat) / z j) n (by omega)
  have hr0 : 0 < -((eX A n k n : Int) : Rat) / z k := by
    have h1 := hmax i hi
    have h3 : ((eX A n i n : Int) : Rat) < ((0 : Int) : Rat) := by exact_mod_cast hlt
    rw [show ((0 : Int) : Rat) = 0 from rfl] at h3
    have h4 : 0 < -((eX A n i n : Int) : Rat) := by clear hmax hz hz2 hb h; grind
    have h2 : 0 < -((eX A n i n : Int) : Rat) / z i := pm_div_pos h4 (hz i hi)
    clear hmax hz hz2 hb h
    grind
  generalize hr : -((eX A n k n : Int) : Rat) / z k = r at hr0 hmax
  have hy : ∀ j, j < n → 0 ≤ r * z j + ((eX A n j n : Int) : Rat) := fun j hj => by
    have h1 := hmax j hj
    have h2 := hz j hj
    have h3 := Rat.mul_le_mul_of_nonneg_right (c := z j) h1 (by grind)
    have h4 : -((eX A n j n : Int) : Rat) / z j * z j = -((eX A n j n : Int) : Rat) := Rat.div_mul_cancel (by grind)
    grind
  have hyk : r * z k + ((eX A n k n : Int) : Rat) = 0 := by
    have h2 := hz k hk
    have h4 : -((eX A n k n : Int) : Rat) / z k * z k = -((eX A n k n : Int) : Rat) := Rat.div_mul_cancel (by grind)
    rw [hr] at h4
    grind
  have hs := pm_s_lin (n := n) (eA A) r z (fun j => ((eX A n j n : Int) : Rat)) k
  rw [h.solved k hk] at hs
  have h5 := hz2 k hk
  have h6 : 0 ≤ ((eb A n : Int) : Rat) * eA A k n := Rat.mul_nonneg (by exact_mod_cast (by have := h.bpos (c := n) (Nat.le_refl _); omega : 0 ≤ eb A n)) (by show (0 : Rat) ≤ ((A k n : Int) : Rat); exact_mod_cast hb k hk)
  have h7 : 0 < r * pm_s n (eA A) z k := Rat.mul_pos hr0 h5
  have h8 : pm_s n (eA A) (fun j => r * z j + ((eX A n j n : Int) : Rat)) k ≤ 0 := by
    have := pz_m_le (u := fun j => eA A k j * (r * z j + ((eX A n j n : Int) : Rat))) (v := fun _ => 0) n (fun j hj => by
      by_cases q : k = j
      · subst q; rw [hyk, Rat.mul_zero]; exact Rat.le_refl
      · have a1 := h.pO k j hk hj q
        have a2 := hy j hj
        have := Rat.mul_nonneg (show 0 ≤ -(eA A k j) by grind) a2
        grind)
    rw [pz_m_zero (u := fun _ => 0) (fun _ _ => rfl)] at this
    exact this
  grind
def VAL (f c : Nat → Int32) (v : Nat → Rat) : Prop :=
  (∀ k, k < (f 0).toInt.toNat → (f (1 + k)).toInt = 0 → v k = (((f (13 + k)).toInt : Int) : Rat)) ∧ (∀ k, k < (f 0).toInt.toNat → ¬ (f (1 + k)).toInt = 0 → ¬ RC f c k → v k = 0) ∧
  ∀ k, k < (f 0).toInt.toNat → ¬ (f (1 + k)).toInt = 0 → RC f c k → gsR f c k (fun _ => 1) (wys f k) * v k = gsR f c k v (wys f k)
/-- what is laid ahead of the solving: pays at ends -/
def upay (f : Nat → Int32) : Nat → Int := fun t => if (f (1 + t)).toInt = 0 then (f (13 + t)).toInt else 0
section VS
variable {f c w : Nat → Int32} {N : Nat} {A : Nat → Nat → Int}
theorem MAT_VAL {u : Nat → Int} (hG : GS f) (hR : RWI f c w (f 0).toInt.toNat N) (hM : MAT f c w N 1 1 0 u (f 0).toInt.toNat A) (hu : ∀ t, t < (f 0).toInt.toNat → u t = upay f t) :
    VAL f c (fun t => if 0 ≤ (w t).toInt then ((eX A N (w t).toInt.toNat N : Int) : Rat) / ((eb A N : Int) : Rat) else ((u t : Int) : Rat)) := by
  have h0 := hG.r.1
  have hE := MAT_EH hG hR hM (by omega) (by omega)
  have hb : (0 : Rat) < ((eb A N : Int) : Rat) := by exact_mod_cast hE.bpos (Nat.le_refl _)
  refine ⟨fun k hk h1 => ?_, fun k hk h1 h2 => ?_, fun k hk h1 h2 => ?_⟩
  · have := (hR.1 k hk).1
    show (if 0 ≤ (w k).toInt then _ else _) = _
    rw [if_neg (fun z => (this.mp z).1 h1), hu k hk]
    unfold upay
    rw [if_pos h1]
  · have := (hR.1 k hk).1
    show (if 0 ≤ (w k).toInt then _ else _) = _
    rw [if_neg (fun z => h2 (this.mp z).2), hu k hk]
    unfold upay
    rw [if_neg h1]; rfl
  · have hw := (hR.1 k hk).1.mpr ⟨h1, h2⟩
    have hwN := (hR.1 k hk).2
    have hs := hE.solved (w k).toInt.toNat (by omega)
    rw [MAT_sum hG hR hM hk (i := (w k).toInt.toNat) (by omega)] at hs
    have hA := hM k hk hw N (Nat.le_refl _)
    unfold arow at hA
    rw [if_pos rfl, Int.zero_mul, Int.add_zero, Int.one_mul] at hA
    have hAR : eA A (w k).toInt.toNat N = gsR f c k (fun t => ((if (w t).toInt < 0 then u t else 0 : Int) : Rat)) (wys f k) := by
      show ((A _ N : Int) : Rat) = _
      rw [hA, gsR_cast]
    rw [hAR, show ((1 : Int) : Rat) = 1 from rfl] at hs
    have hl := gsR_lin (f := f) (c := c) (k := k) (1 / ((eb A N : Int) : Rat)) (Yw w (fun j => ((eX A N j N : Int) : Rat))) (fun t => ((if (w t).toInt < 0 then u t else 0 : Int) : Rat)) (wys f k)
    show gsR f c k (fun _ => 1) (wys f k) * (if 0 ≤ (w k).toInt then ((eX A N (w k).toInt.toNat N : Int) : Rat) / ((eb A N : Int) : Rat) else ((u k : Int) : Rat)) = _
    rw [gsR_congr (f := f) (c := c) (k := k) (u := fun t => if 0 ≤ (w t).toInt then ((eX A N (w t).toInt.toNat N : Int) : Rat) / ((eb A N : Int) : Rat) else ((u t : Int) : Rat)) (v := fun t => 1 / ((eb A N : Int) : Rat) * Yw w (fun j => ((eX A N j N : Int) : Rat)) t + ((if (w t).toInt < 0 then u t else 0 : Int) : Rat)) (wys f k) (fun i hi _ => by
      unfold Yw
      dsimp only
      by_cases q : 0 ≤ (w (wtg f k i)).toInt
      · rw [if_pos q, if_pos q, if_neg (by omega), show ((0 : Int) : Rat) = 0 from rfl]; grind
      · rw [if_neg q, if_neg q, if_pos (by omega)]; grind), hl, if_pos hw]
    generalize gsR f c k (Yw w (fun j => ((eX A N j N : Int) : Rat))) (wys f k) = Z at hs ⊢
    generalize gsR f c k (fun t => ((if (w t).toInt < 0 then u t else 0 : Int) : Rat)) (wys f k) = X at hs ⊢
    generalize gsR f c k (fun _ => 1) (wys f k) = all at hs ⊢
    generalize ((eX A N (w k).toInt.toNat N : Int) : Rat) = x at hs ⊢
    generalize ((eb A N : Int) : Rat) = B at hb hs ⊢
    have e1 : all * (x / B) = (all * x) / B := by grind
    have e2 : (B * X) / B = X := by rw [Rat.mul_comm]; exact Rat.mul_div_cancel (by grind)
    have e3 : all * x = Z + B * X := by grind
    rw [e1, e3]
    grind
theorem i32_small {N : Nat} (h : N ≤ 12) : (Int32.ofInt (N : Int)).toInt = (N : Int) := by
  rcases (show N = 0 ∨ N = 1 ∨ N = 2 ∨ N = 3 ∨ N = 4 ∨ N = 5 ∨ N = 6 ∨ N = 7 ∨ N = 8 ∨ N = 9 ∨ N = 10 ∨ N = 11 ∨ N = 12 by omega) with rfl | rfl | rfl | rfl | rfl | rfl | rfl | rfl | rfl | rfl | rfl | rfl | rfl <;> decide
theorem RWI_ex (f c : Nat → Int32) : ∀ m, m ≤ 12 → ∃ (w : Nat → Int32) (N : Nat), RWI f c w m N
  | 0, _ => ⟨fun _ => 0, 0, RWI_zero f c _⟩
  | m + 1, hm => by
    obtain ⟨w, N, h⟩ := RWI_ex f c m (by omega)
    have hN := h.2.2.2.1
    by_cases q : rwS f c m
    · exact ⟨upd w m (Int32.ofInt (N : Int)), N + 1, RWI_row h (fun k hk => upd_ne _ _ (by omega)) (by rw [upd_at]; exact i32_small (by omega)) q rfl rfl⟩
    · exact ⟨upd w m (-1), N, RWI_not h (fun k hk => upd_ne _ _ (by omega)) (by rw [upd_at]; decide) q rfl⟩
theorem VAL_ex (hG : GS f) (c : Nat → Int32) : ∃ v, VAL f c v := by
  have h0 := hG.r.1
  obtain ⟨w, N, hR⟩ := RWI_ex f c (f 0).toInt.toNat (by omega)
  have hA : ∃ A : Nat → Nat → Int, MAT f c w N 1 1 0 (upay f) (f 0).toInt.toNat A := by
    have hx : ∀ j, ∃ r : Nat, j < N → r < (f 0).toInt.toNat ∧ (w r).toInt = (j : Int) := fun j => by
      by_cases q : j < N
      · obtain ⟨k, hk, e1⟩ := hR.2.1 j q
        exact ⟨k, fun _ => ⟨hk, e1⟩⟩
      · exact ⟨0, fun z => absurd z q⟩
    refine ⟨fun i j => arow f c w N 1 1 0 (upay f) (hx i).choose j, fun k hk hw j hj => ?_⟩
    have h1 := (hR.1 k hk).2
    obtain ⟨h2, h3⟩ := (hx (w k).toInt.toNat).choose_spec (by omega)
    show arow f c w N 1 1 0 (upay f) (hx (w k).toInt.toNat).choose j = _
    rw [hR.2.2.1 _ _ h2 hk (by omega) (by omega)]
  obtain ⟨A, hM⟩ := hA
  exact ⟨_, MAT_VAL hG hR hM (fun _ _ => rfl)⟩
end VS
section PU
variable {n : Nat} {en : Nat → Bool} {pay : Nat → Rat} {pl mx : Nat → Bool} {ch : Nat → List (Nat × Nat)} {to : Nat → Nat → Nat} {al : Nat → Nat → Prop}
theorem pz_V_uniq (hN : pz_N n en pay pl mx ch to al) {c : Nat → Nat} (hc : pz_L n pl al c) {v v' : Nat → Rat} (hv : pz_V n en pay pl ch to c v) (hv' : pz_V n en pay pl ch to c v') : ∀ k, k < n → v k = v' k := by
  have H : ∀ v v' : Nat → Rat, pz_V n en pay pl ch to c v → pz_V n en pay pl ch to c v' → ∀ k, k < n → v k - v' k ≤ 0 := fun v v' hv hv' => pz_prin (pz_ok_of hN hc) (u := fun k => v k - v' k) (fun k hk h => by
    by_cases q : en k = true
    · rw [hv.1 k hk q, hv'.1 k hk q]; grind
    · have q' : en k = false := by simpa using q
      have h2 : ¬ pz_C en (pz_sc pl ch to c) k := h.resolve_left q
      rw [hv.2.1 k hk q' h2, hv'.2.1 k hk q' h2]; grind) (fun k hk h1 h2 => by
    have e1 := hv.2.2 k hk h1 h2
    have e2 := hv'.2.2 k hk h1 h2
    rw [pz_s_sub]
    grind)
  intro k hk
  have h1 := H v v' hv hv' k hk
  have h2 := H v' v hv' hv k hk
  grind
end PU
/-! the game of a row, for the rows of 00 to 02 -/
def gEn (f : Nat → Int32) (k : Nat) : Bool := decide ((f (1 + k)).toInt = 0)
def gPay (f : Nat → Int32) (k : Nat) : Rat := (((f (13 + k)).toInt : Int) : Rat)
def gPl (f : Nat → Int32) (k : Nat) : Bool := decide ((f (1 + k)).toInt = 1 ∨ (f (1 + k)).toInt = 2)
def gMx (f : Nat → Int32) (k : Nat) : Bool := decide ((f (1 + k)).toInt = 1)
def gCh (f : Nat → Int32) (k : Nat) : List (Nat × Nat) := (List.range (wys f k)).map (fun i => ((wwt f k i).toNat, wtg f k i))
def gAl (f : Nat → Int32) (k i : Nat) : Prop := i < wys f k ∧ ((f (109 + k)).toInt < 0 ∨ (f (109 + k)).toInt = (i : Int))
def gNo (f : Nat → Int32) : Nat := (f 0).toInt.toNat
section GV
variable {f : Nat → Int32}
theorem g_N (hG : GS f) : pz_N (gNo f) (gEn f) (gPay f) (gPl f) (gMx f) (gCh f) (wtg f) (gAl f) := by
  have h0 := hG.r.1
  refine ⟨fun k hk h1 h2 => ?_, fun k hk i h1 h2 => ?_, fun k hk h1 => ?_, fun k h1 => ?_⟩
  · unfold gNo at hk
    have hk0 : ¬ (f (1 + k)).toInt = 0 := by unfold gEn at h1; simpa using h1
    have hw := hG.2 k (by omega) hk0
    refine ⟨?_, fun p hp => ?_⟩
    · unfold gCh
      intro e
      have := congrArg List.length e
      rw [List.length_map, List.length_range] at this
      have h9 : wys f k = 0 := this
      unfold wys at h9
      omega
    · unfold gCh at hp
      obtain ⟨i, hi, rfl⟩ := List.mem_map.mp hp
      have h3 := gs_w1 hG (k := k) (by omega) (List.mem_range.mp hi)
      unfold gNo
      exact ⟨by show 0 < (wwt f k i).toNat; omega, by show wtg f k i < _; omega⟩
  · unfold gNo at hk
    have h3 := gs_w1 hG (k := k) (by omega) h2.1
    unfold gNo; omega
  · unfold gNo at hk
    have := ((hG.r.2.1 k (by omega)).2.1).1
    unfold gPay; exact_mod_cast this
  · unfold gMx at h1; unfold gPl
    have : (f (1 + k)).toInt = 1 := by simpa using h1
    simp [this]
theorem gsR_chance {c : Nat → Int32} {k : Nat} (h3 : (f (1 + k)).toInt = 3) (v : Nat → Rat) : ∀ m, (∀ i, i < m → 0 ≤ wwt f k i) → gsR f c k v m = pz_s ((List.range m).map (fun i => ((wwt f k i).toNat, wtg f k i))) v
  | 0, _ => rfl
  | m + 1, h => by
    have app : ∀ (l : List (Nat × Nat)) (p : Nat × Nat), pz_s (l ++ [p]) v = pz_s l v + (p.1 : Rat) * v p.2 := fun l p => by
      induction l with
      | nil => show (p.1 : Rat) * v p.2 + 0 = 0 + _; grind
      | cons q l ih => show (q.1 : Rat) * v q.2 + pz_s (l ++ [p]) v = _; rw [ih]; show _ = (q.1 : Rat) * v q.2 + pz_s l v + _; grind
    rw [List.range_succ, List.map_append]
    show gsR f c k v m + _ = pz_s (_ ++ [((wwt f k m).toNat, wtg f k m)]) v
    rw [app, gsR_chance h3 v m (fun i hi => h i (by omega)), if_pos (Or.inl h3)]
    have e : ((wwt f k m : Int) : Rat) = (((wwt f k m).toNat : Nat) : Rat) := by
      have := h m (by omega)
      obtain ⟨n, hn⟩ := Int.eq_ofNat_of_zero_le this
      rw [hn]; rfl
    rw [e]
theorem gsR_player {c : Nat → Int32} {k i : Nat} (h3 : ¬ (f (1 + k)).toInt = 3) (hc : (c k).toInt = (i : Int)) (v : Nat → Rat) : ∀ m, gsR f c k v m = if i < m then v (wtg f k i) else 0
  | 0 => by rw [if_neg (by omega)]; rfl
  | m + 1 => by
    show gsR f c k v m + _ = _
    rw [gsR_player h3 hc v m]
    by_cases q : i = m
    · subst q
      rw [if_neg (by omega), if_pos (Or.inr hc), if_pos (by omega)]
      unfold wwt
      rw [if_neg h3, show ((1 : Int) : Rat) = 1 from rfl]; grind
    · have q2 : ¬ wsel f c k m := fun z => by rcases z with z | z; exact h3 z; omega
      rw [if_neg q2]
      by_cases q3 : i < m
      · rw [if_pos q3, if_pos (by omega)]; grind
      · rw [if_neg q3, if_neg (by omega)]; grind
theorem g_pl (hG : GS f) {k : Nat} (hk : k < gNo f) (h0 : ¬ (f (1 + k)).toInt = 0) (h3 : ¬ (f (1 + k)).toInt = 3) : gPl f k = true := by
  have h1 := hG.r.1
  unfold gNo at hk
  have := (hG.r.2.1 k (by omega)).1
  unfold gPl
  have : (f (1 + k)).toInt = 1 ∨ (f (1 + k)).toInt = 2 := by omega
  simp [this]
theorem g_pl3 {k : Nat} (h3 : (f (1 + k)).toInt = 3) : gPl f k = false := by unfold gPl; simp [h3]
theorem g_sum (hG : GS f) {d : Nat → Int32} {c : Nat → Nat} (hd : ∀ k, k < gNo f → gPl f k = true → (d k).toInt = (c k : Int)) (hc : pz_L (gNo f) (gPl f) (gAl f) c) {k : Nat} (hk : k < gNo f) (h0 : ¬ (f (1 + k)).toInt = 0) (v : Nat → Rat) : gsR f d k v (wys f k) = pz_s (pz_sc (gPl f) (gCh f) (wtg f) c k) v := by
  have hn := hG.r.1
  have hk12 : k < 12 := by unfold gNo at hk; omega
  unfold pz_sc
  by_cases h3 : (f (1 + k)).toInt = 3
  · rw [g_pl3 h3, if_neg (by decide)]
    exact gsR_chance h3 v _ (gs_wn hG hk12)
  · have hp := g_pl hG hk h0 h3
    rw [hp, if_pos rfl, gsR_player h3 (hd k hk hp) v, if_pos (hc k hk hp).1]
    show _ = ((1 : Nat) : Rat) * v (wtg f k (c k)) + 0
    rw [show ((1 : Nat) : Rat) = 1 from rfl]; grind
theorem g_on (hG : GS f) {d : Nat → Int32} {c : Nat → Nat} (hd : ∀ k, k < gNo f → gPl f k = true → (d k).toInt = (c k : Int)) (hc : pz_L (gNo f) (gPl f) (gAl f) c) {k : Nat} (hk : k < gNo f) (h0 : ¬ (f (1 + k)).toInt = 0) (j : Nat) : ON f d k j ↔ ∃ p, p ∈ pz_sc (gPl f) (gCh f) (wtg f) c k ∧ p.2 = j := by
  have hn := hG.r.1
  have hk12 : k < 12 := by unfold gNo at hk; omega
  have hw := (hG.r.2.1 k hk12).2.2.1
  unfold pz_sc ON
  by_cases h3 : (f (1 + k)).toInt = 3
  · rw [g_pl3 h3, if_neg (by decide)]
    unfold gCh
    constructor
    · rintro ⟨i, hi, _, ht⟩
      exact ⟨_, List.mem_map.mpr ⟨i, List.mem_range.mpr (by unfold wys; omega), rfl⟩, by show wtg f k i = j; unfold wtg; omega⟩
    · rintro ⟨p, hp, e⟩
      obtain ⟨i, hi, rfl⟩ := List.mem_map.mp hp
      have hi := List.mem_range.mp hi
      have h4 := (gs_w1 hG hk12 hi).2.2.2
      have e : wtg f k i = j := e
      exact ⟨i, by unfold wys at hi; omega, Or.inl h3, by omega⟩
  · have hp := g_pl hG hk h0 h3
    have hck := hd k hk hp
    have hcl := (hc k hk hp).1
    have h4 := (gs_w1 hG hk12 hcl).2.2.2
    rw [hp, if_pos rfl]
    constructor
    · rintro ⟨i, hi, hs, ht⟩
      have : (d k).toInt = (i : Int) := hs.resolve_left h3
      obtain rfl : i = c k := by omega
      exact ⟨_, List.mem_singleton.mpr rfl, by show wtg f k (c k) = j; omega⟩
    · rintro ⟨p, hp2, e⟩
      rw [List.mem_singleton] at hp2
      subst hp2
      have e : wtg f k (c k) = j := e
      exact ⟨c k, by unfold wys at hcl; omega, Or.inr hck, by omega⟩
theorem g_RC (hG : GS f) {d : Nat → Int32} {c : Nat → Nat} (hd : ∀ k, k < gNo f → gPl f k = true → (d k).toInt = (c k : Int)) (hc : pz_L (gNo f) (gPl f) (gAl f) c) {k : Nat} (hk : k < gNo f) : RC f d k ↔ pz_C (gEn f) (pz_sc (gPl f) (gCh f) (wtg f) c) k := by
  have hn := hG.r.1
  have hok := pz_ok_of (g_N hG) hc
  constructor
  · rintro ⟨m, hm⟩
    induction m generalizing k with
    | zero => exact pz_C_end (by unfold gEn; simp [hm.2])
    | succ m ih =>
      rcases hm with hm | ⟨h1, h2, j, h3, h4⟩
      · exact ih hk hm
      · obtain ⟨p, hp, e⟩ := (g_on hG hd hc hk h2 j).mp h3
        have := (hok k hk (by unfold gEn; simp [h2])).2 p hp
        exact pz_C_step hp (by rw [e]; exact ih (by omega) h4)
  · rintro ⟨m, hm⟩
    induction m generalizing k with
    | zero =>
      have h1 : gEn f k = true := hm
      unfold gEn at h1
      unfold gNo at hk
      exact ⟨0, by omega, by simpa using h1⟩
    | succ m ih =>
      rcases hm with h1 | ⟨p, hp, h2⟩
      · unfold gEn at h1
        unfold gNo at hk
        exact ⟨0, by omega, by simpa using h1⟩
      · by_cases h1 : (f (1 + k)).toInt = 0
        · unfold gNo at hk
          exact ⟨0, by omega, h1⟩
        · have h3 := (hok k hk (by unfold gEn; simp [h1])).2 p hp
          exact RC_closed f d k p.2 (by unfold gNo at hk; omega) h1 ((g_on hG hd hc hk h1 p.2).mpr ⟨p, hp, rfl⟩) (ih h3.2 h2)
theorem g_V (hG : GS f) {d : Nat → Int32} {c : Nat → Nat} (hd : ∀ k, k < gNo f → gPl f k = true → (d k).toInt = (c k : Int)) (hc : pz_L (gNo f) (gPl f) (gAl f) c) {v : Nat → Rat} (h : VAL f d v) : pz_V (gNo f) (gEn f) (gPay f) (gPl f) (gCh f) (wtg f) c v := by
  have ht : ∀ k, gEn f k = true → (f (1 + k)).toInt = 0 := fun k q => by unfold gEn at q; simpa using q
  have hf : ∀ k, gEn f k = false → ¬ (f (1 + k)).toInt = 0 := fun k q => by unfold gEn at q; simpa using q
  refine ⟨fun k hk h1 => h.1 k hk (ht k h1), fun k hk h1 h2 => h.2.1 k hk (hf k h1) (fun z => h2 ((g_RC hG hd hc hk).mp z)), fun k hk h1 h2 => ?_⟩
  have := h.2.2 k hk (hf k h1) ((g_RC hG hd hc hk).mpr h2)
  rw [g_sum hG hd hc hk (hf k h1), g_sum hG hd hc hk (hf k h1)] at this
  exact this
/-- the one worth of a play -/
noncomputable def vof (f : Nat → Int32) (c : Nat → Nat) : Nat → Rat := Classical.epsilon (fun v => VAL f (fun k => Int32.ofInt ((c k % 3 : Nat) : Int)) v)
theorem i32_mod (n : Nat) (h : n < 3) : (Int32.ofInt ((n % 3 : Nat) : Int)).toInt = (n : Int) := by
  rw [Nat.mod_eq_of_lt h]; exact i32_small (by omega)
theorem g_wys (hG : GS f) {k : Nat} (hk : k < gNo f) : wys f k ≤ 3 := by
  have h1 := hG.r.1
  unfold gNo at hk
  have := (hG.r.2.1 k (by omega)).2.2.1
  unfold wys; omega
theorem vof_V (hG : GS f) (c : Nat → Nat) (hc : pz_L (gNo f) (gPl f) (gAl f) c) : pz_V (gNo f) (gEn f) (gPay f) (gPl f) (gCh f) (wtg f) c (vof f c) := by
  have hx := VAL_ex hG (fun k => Int32.ofInt ((c k % 3 : Nat) : Int))
  exact g_V hG (fun k hk hp => i32_mod (c k) (by have := (hc k hk hp).1; have := g_wys hG hk; omega)) hc (Classical.epsilon_spec hx)
theorem vof_eq (hG : GS f) {d : Nat → Int32} {c : Nat → Nat} (hd : ∀ k, k < gNo f → gPl f k = true → (d k).toInt = (c k : Int)) (hc : pz_L (gNo f) (gPl f) (gAl f) c) {v : Nat → Rat} (h : VAL f d v) : ∀ k, k < gNo f → v k = vof f c k := pz_V_uniq (g_N hG) hc (g_V hG hd hc h) (vof_V hG c hc)
end GV
/-! laying fractions; the rows' filling -/
theorem tl_ne0 {b : Int64} (h : ¬ b.toInt = 0) : ¬ b = 0 := fun e => h (by rw [e]; decide)
theorem tl_i2l {x : Int32} {w : Int64} (h : w = x.toInt64) : w.toInt = x.toInt := by rw [h]; exact Int32.toInt_toInt64 x
theorem tl_cmpneg {w : Int64} {v : Int32} (hv : v = lg_cmp w 0) (h : ¬ 0 ≤ v) : w.toInt < 0 := by
  rw [hv] at h
  unfold lg_cmp at h
  by_cases q : w > 0
  · rw [if_pos q] at h; exact absurd (by decide) h
  · rw [if_neg q] at h
    by_cases q2 : w = 0
    · rw [if_pos q2] at h; exact absurd (by decide) h
    · have h3 : ¬ (0 : Int64).toInt < w.toInt := fun z => q (Int64.lt_iff_toInt_lt.mpr z)
      have h4 : ¬ w.toInt = 0 := tl_nz0 q2
      have h5 : (0 : Int64).toInt = 0 := by decide
      omega
def LYS (u l u' l' : Nat → Int64) (k : Nat) (a b : Int) : Prop := (∀ j, j ≠ k → u' j = u j ∧ l' j = l j) ∧ (0 ≤ a → (u' k).toInt * b = (l' k).toInt * a ∧ 0 < (l' k).toInt ∧ (l' k).toInt ≤ b ∧ 0 ≤ (u' k).toInt ∧ (u' k).toInt ≤ a ∧ (l' k).toInt ∣ b)
theorem tl_divx {x a d : Int64} (h : x = a / d) (hd : 0 < d.toInt) (ha : 0 ≤ a.toInt) (hv : d.toInt ∣ a.toInt) : x.toInt * d.toInt = a.toInt ∧ 0 ≤ x.toInt ∧ x.toInt ≤ a.toInt := by
  obtain ⟨q, hq⟩ := hv
  have h1 := tl_any a
  have hq0 : 0 ≤ q := by
    refine Int.not_lt.mp fun z => ?_
    have := Int.mul_le_mul_of_nonneg_left (show q ≤ -1 by omega) (show 0 ≤ d.toInt by omega)
    omega
  have hqa : q ≤ a.toInt := by
    have := Int.mul_le_mul_of_nonneg_right (show 1 ≤ d.toInt by omega) hq0
    omega
  have e : x.toInt = q := by rw [h]; exact tl_div (q := q) (by rw [hq, Int.mul_comm]) (by omega) (by omega) (by omega)
  rw [e]
  exact ⟨by rw [hq, Int.mul_comm], hq0, hqa⟩
theorem LYS_of {u l u' l' : Nat → Int64} {k : Nat} {a b d x y : Int64} (hd : ¬ d.toInt = 0 ∧ d.toInt ∣ a.toInt ∧ d.toInt ∣ b.toInt ∧ (0 ≤ a.toInt → 0 < d.toInt)) (hx : x = a / d) (hy : y = b / d) (hu : u' = fun j9 => if j9 = k then x else u j9) (hl : l' = fun j9 => if j9 = k then y else l j9) (hb : 0 < b.toInt) : LYS u l u' l' k a.toInt b.toInt := by
  subst hu hl
  refine ⟨fun j hj => ⟨if_neg hj, if_neg hj⟩, fun ha => ?_⟩
  have hdp := hd.2.2.2 ha
  obtain ⟨x1, x2, x3⟩ := tl_divx hx hdp ha hd.2.1
  obtain ⟨y1, y2, y3⟩ := tl_divx hy hdp (by omega) hd.2.2.1
  show (if k = k then x else u k).toInt * _ = (if k = k then y else l k).toInt * _ ∧ 0 < (if k = k then y else l k).toInt ∧ (if k = k then y else l k).toInt ≤ _ ∧ 0 ≤ (if k = k then x else u k).toInt ∧ (if k = k then x else u k).toInt ≤ _ ∧ (if k = k then y else l k).toInt ∣ _
  rw [if_pos rfl, if_pos rfl]
  have hy0 : 0 < y.toInt := by
    refine Int.not_le.mp fun z => ?_
    have e0 : y.toInt = 0 := by omega
    rw [e0, Int.zero_mul] at y1
    omega
  refine ⟨?_, hy0, y3, x2, x3, ⟨d.toInt, y1.symm⟩⟩
  rw [← y1, ← x1, Int.mul_left_comm]
/-- whole numbers laid as fractions by 1 -/
def UPA (g : Nat → Int) (u l : Nat → Int64) (m : Nat) : Prop := ∀ t, t < m → (u t).toInt = g t ∧ (l t).toInt = 1
theorem UPA_zero {g : Nat → Int} {u l : Nat → Int64} : UPA g u l 0 := fun t h => absurd h (by omega)
theorem UPA_next {g : Nat → Int} {u l u' l' : Nat → Int64} {m m2 : Nat} {a b : Int} (h : UPA g u l m) (hL : LYS u l u' l' m a b) (hb : b = 1) (ha : a = g m) (h0 : 0 ≤ a) (hm : m2 = m + 1) : UPA g u' l' m2 := by
  subst hm hb
  intro t ht
  by_cases e : t = m
  · subst e
    obtain ⟨h1, h2, h3, _⟩ := hL.2 h0
    have h4 : (l' t).toInt = 1 := by omega
    rw [h4] at h1
    exact ⟨by omega, h4⟩
  · rw [(hL.1 t e).1, (hL.1 t e).2]; exact h t (by omega)
theorem upay_end {f : Nat → Int32} {k : Nat} {w : Int64} {x : Int32} (hw : w = x.toInt64) (hx : x = f (13 + k)) (h : (f (1 + k)).toInt = 0) : w.toInt = upay f k := by
  rw [tl_i2l hw, hx]; unfold upay; rw [if_pos h]
theorem upay_not {f : Nat → Int32} {k : Nat} (h : ¬ (f (1 + k)).toInt = 0) : (0 : Int64).toInt = upay f k := by unfold upay; rw [if_neg h]; decide
theorem upay_rng {f : Nat → Int32} (hG : GS f) {t : Nat} (ht : t < (f 0).toInt.toNat) : 0 ≤ upay f t ∧ upay f t ≤ 9 := by
  have h0 := hG.r.1
  have := (hG.r.2.1 t (by omega)).2.1
  unfold upay
  split <;> omega
theorem zero_rng {n : Nat} : ∀ t, t < n → (0 : Int) ≤ (fun _ : Nat => (0 : Int)) t ∧ (fun _ : Nat => (0 : Int)) t ≤ 9 := fun _ _ => ⟨Int.le_refl _, (by decide : (0 : Int) ≤ 9)⟩
theorem RWI_notU {f c w v : Nat → Int32} {m m2 N N2 : Nat} {x : Int32} (h : RWI f c w m N) (hv : v = upd w m x) (hx : x.toInt = -1) (hS : ¬ rwS f c m) (hm : m2 = m + 1) (hN : N2 = N) : RWI f c v m2 N2 := by
  subst hv hN
  exact RWI_not h (fun k hk => upd_ne _ _ (by omega)) (by rw [upd_at]; exact hx) hS hm
theorem RWI_rowU {f c w v1 v : Nat → Int32} {m m2 N N2 : Nat} {x y : Int32} (h : RWI f c w m N) (hv1 : v1 = upd w m y) (hv : v = upd v1 m x) (hx : x.toInt = (N : Int)) (hS : rwS f c m) (hm : m2 = m + 1) (hN : N2 = N + 1) : RWI f c v m2 N2 := by
  subst hv hv1
  exact RWI_row h (fun k hk => by rw [upd_ne _ _ (by omega), upd_ne _ _ (by omega)]) (by rw [upd_at]; exact hx) hS hm hN
section FI
variable {f c w : Nat → Int32} {N K R : Nat} {a b e : Int} {u : Nat → Int} {ct ct2 ct3 ct4 : Nat → Nat → Int64}
theorem MAT_zero {A : Nat → Nat → Int} : MAT f c w N a b e u 0 A := fun k h => absurd h (by omega)
/-- another row's change leaves the rows before it -/
theorem MAT_tup (hR : RWI f c w (f 0).toInt.toNat N) (h : MAT f c w N a b e u K (tI ct)) {J : Nat} {z : Int64} (g : ct2 = tup ct R J z) (hK : K < (f 0).toInt.toNat) (hw : (w K).toInt = (R : Int)) : MAT f c w N a b e u K (tI ct2) := by
  intro k hk hwk j hj
  subst g
  show (tup ct R J z (w k).toInt.toNat j).toInt = _
  rw [tup_ne _ _ (Or.inl (fun z2 => by have := hR.2.2.1 k K (by omega) hK (by omega) hwk; omega))]
  exact h k hk hwk j hj
theorem MAT_next (h : MAT f c w N a b e u K (tI ct)) {K2 : Nat} (hw : 0 ≤ (w K).toInt → ∀ j, j ≤ N → (ct (w K).toInt.toNat j).toInt = arow f c w N a b e u K j) (hK : K2 = K + 1) : MAT f c w N a b e u K2 (tI ct) := by
  subst hK
  intro k hk hwk j hj
  by_cases q : k = K
  · subst q; exact hw hwk j hj
  · exact h k (by omega) hwk j hj
theorem ZRO_next {J J2 : Nat} {z : Int64} (h : ∀ j, j < J → (ct R j).toInt = 0) (g : ct2 = tup ct R J z) (hz : z.toInt = 0) (hJ : J2 = J + 1) : ∀ j, j < J2 → (ct2 R j).toInt = 0 := by
  subst g hJ
  intro j hj
  by_cases q : j = J
  · subst q; rw [tup_at]; exact hz
  · rw [tup_ne _ _ (Or.inr q)]; exact h j (by omega)
/-- a row half filled -/
def PRT (f c w : Nat → Int32) (N : Nat) (b : Int) (u : Nat → Int) (k i : Nat) (r : Nat → Int64) : Prop := ∀ j, j ≤ N → (r j).toInt = if j = N then b * gsm f c k (fun t => if (w t).toInt < 0 then u t else 0) i else -(b * gsm f c k (fun t => if (w t).toInt = (j : Int) then 1 else 0) i)
theorem PRT_start {J : Nat} {r : Nat → Int64} (h : ∀ j, j < J → (r j).toInt = 0) (hJ : N < J) : PRT f c w N b u K 0 r := by
  intro j hj
  rw [h j (by omega)]
  show 0 = if j = N then b * 0 else -(b * 0)
  rw [Int.mul_zero]; split <;> rfl
theorem gsm_sel {k i : Nat} {u : Nat → Int} (h : wsel f c k i) : gsm f c k u (i + 1) = gsm f c k u i + wwt f k i * u (wtg f k i) := by
  show gsm f c k u i + _ = _; rw [if_pos h]
theorem gsm_not {k i : Nat} {u : Nat → Int} (h : ¬ wsel f c k i) : gsm f c k u (i + 1) = gsm f c k u i := by
  show gsm f c k u i + _ = _; rw [if_neg h]; omega
theorem PRT_skip {i i2 : Nat} {r : Nat → Int64} (h : PRT f c w N b u K i r) (hs : ¬ wsel f c K i) (hi : i2 = i + 1) : PRT f c w N b u K i2 r := by
  subst hi
  intro j hj
  rw [h j hj, gsm_not hs, gsm_not hs]
theorem gsm_bd (hG : GS f) {k : Nat} (hk : k < 12) {u : Nat → Int} (hu : ∀ t, t < (f 0).toInt.toNat → 0 ≤ u t ∧ u t ≤ 9) : ∀ i, i ≤ wys f k → 0 ≤ gsm f c k u i ∧ gsm f c k u i ≤ 27 * i
  | 0, _ => by show (0 : Int) ≤ 0 ∧ (0 : Int) ≤ 27 * (0 : Nat); omega
  | i + 1, hi => by
    have ih := gsm_bd hG hk hu i (by omega)
    by_cases q : wsel f c k i
    · rw [gsm_sel q]
      have h1 := gs_w1 hG hk (show i < wys f k by omega)
      have h2 := hu (wtg f k i) (by omega)
      have h3 := Int.mul_nonneg (show 0 ≤ wwt f k i by omega) h2.1
      have h4 : wwt f k i * u (wtg f k i) ≤ 3 * 9 := Int.mul_le_mul h1.2.1 h2.2 h2.1 (by omega)
      omega
    · rw [gsm_not q]; omega
theorem gsm_b (hG : GS f) {k : Nat} (hk : k < 12) {u : Nat → Int} (hu : ∀ t, t < (f 0).toInt.toNat → 0 ≤ u t ∧ u t ≤ 9) {i : Nat} (hi : i ≤ wys f k) {b : Int} (hb : 0 ≤ b ∧ b ≤ 5) : 0 ≤ b * gsm f c k u i ∧ b * gsm f c k u i ≤ 405 := by
  have h1 := gsm_bd (c := c) hG hk hu i hi
  have h2 : wys f k ≤ 3 := by have := (hG.r.2.1 k hk).2.2.1; unfold wys; omega
  have h3 : b * gsm f c k u i ≤ 5 * 81 := Int.mul_le_mul hb.2 (by omega) h1.1 (by omega)
  exact ⟨Int.mul_nonneg hb.1 h1.1, by omega⟩
theorem ind_rng {w : Nat → Int32} {j : Nat} {n : Nat} : ∀ t, t < n → (0 : Int) ≤ (fun t => if (w t).toInt = (j : Int) then 1 else 0 : Nat → Int) t ∧ (fun t => if (w t).toInt = (j : Int) then 1 else 0 : Nat → Int) t ≤ 9 := fun t _ => by dsimp only; split <;> omega
theorem neg_rng {w : Nat → Int32} {u : Nat → Int} {n : Nat} (hu : ∀ t, t < n → 0 ≤ u t ∧ u t ≤ 9) : ∀ t, t < n → (0 : Int) ≤ (fun t => if (w t).toInt < 0 then u t else 0 : Nat → Int) t ∧ (fun t => if (w t).toInt < 0 then u t else 0 : Nat → Int) t ≤ 9 := fun t ht => by have := hu t ht; dsimp only; split <;> omega
/-- a weight -/
theorem wwt_chance {k i : Nat} {x : Int32} {g : Int64} (h : (f (1 + k)).toInt = 3) (hx : x = f (73 + 3 * k + i)) (hg : g = x.toInt64) : g.toInt = wwt f k i := by
  rw [tl_i2l hg, hx]; unfold wwt; rw [if_pos h]
theorem wwt_player {k i : Nat} (h : ¬ (f (1 + k)).toInt = 3) : (1 : Int64).toInt = wwt f k i := by unfold wwt; rw [if_neg h]; decide
theorem tl_small {x y : Int64} {B C : Int} (hx : -1000 ≤ x.toInt ∧ x.toInt ≤ 1000) (hy : -1000 ≤ y.toInt ∧ y.toInt ≤ 1000) : (x + y).toInt = x.toInt + y.toInt ∧ (x - y).toInt = x.toInt - y.toInt ∧ (x * y).toInt = x.toInt * y.toInt ∧ -1000000 ≤ x.toInt * y.toInt ∧ x.toInt * y.toInt ≤ 1000000 := by
  have h := tl_absmul (A := 1000) (B := 1000) hx hy
  exact ⟨tl_add (by omega) (by omega), tl_sub (by omega) (by omega), tl_mul (by omega) (by omega), by omega, by omega⟩
theorem PRT_row (hG : GS f) (hK : K < 12) (hb : 0 ≤ b ∧ b ≤ 5) {i i2 : Nat} (h : PRT f c w N b u K i (ct R)) (hi : i < wys f K) (hs : wsel f c K i) {t v : Int32} {p g x m y : Int64} {J : Nat} (ht : t = f (37 + 3 * K + i)) (hv : v = w t.toInt.toNat) (hvJ : v.toInt = (J : Int)) (hJ : J < N) (hp : p.toInt = b) (hg : g.toInt = wwt f K i) (hx : x = ct R J) (hm : m = p * g) (hy : y = x - m) (gc2 : ct2 = tup ct R J y) (hi2 : i2 = i + 1) : PRT f c w N b u K i2 (ct2 R) := by
  subst hi2 gc2
  have hw := gs_w1 hG hK hi
  have et : wtg f K i = t.toInt.toNat := by unfold wtg; rw [← ht]
  have eJ : (w (wtg f K i)).toInt = (J : Int) := by rw [et, ← hv]; exact hvJ
  intro j hj
  by_cases q : j = J
  · subst q
    rw [tup_at, if_neg (by omega), gsm_sel hs]
    rw [if_pos eJ, Int.mul_one, Int.mul_add]
    have h1 := h j hj
    rw [if_neg (by omega), ← hx] at h1
    have h2 := gsm_b (c := c) hG hK (u := fun t => if (w t).toInt = (j : Int) then 1 else 0) ind_rng (i := i) (by omega) hb
    have h3 := tl_small (B := 0) (C := 0) (x := p) (y := g) (by omega) (by omega)
    have h4 : b * wwt f K i ≤ 5 * 3 := Int.mul_le_mul hb.2 hw.2.1 (by omega) (by omega)
    have h5 := Int.mul_nonneg hb.1 (show 0 ≤ wwt f K i by omega)
    have em : m.toInt = b * wwt f K i := by rw [hm, h3.2.2.1, hp, hg]
    rw [hy, (tl_small (B := 0) (C := 0) (x := x) (y := m) (by omega) (by omega)).2.1]
    omega
  · rw [tup_ne _ _ (Or.inr q), h j hj, gsm_sel hs, gsm_sel hs]
    rw [eJ, if_neg (show ¬ (J : Int) < 0 by omega), if_neg (show ¬ (J : Int) = (j : Int) by omega)]
    simp only [Int.mul_zero, Int.add_zero]
theorem PRT_end (hG : GS f) (hK : K < 12) (hb : 0 ≤ b ∧ b ≤ 5) (hu : ∀ t, t < (f 0).toInt.toNat → 0 ≤ u t ∧ u t ≤ 9) {i i2 : Nat} (h : PRT f c w N b u K i (ct R)) (hR : RWI f c w (f 0).toInt.toNat N) (hi : i < wys f K) (hs : wsel f c K i) {t v : Int32} {p g x m m2 z y : Int64} (ht : t = f (37 + 3 * K + i)) (hv : v = w t.toInt.toNat) (hv0 : v.toInt < 0) (hp : p.toInt = b) (hg : g.toInt = wwt f K i) (hx : x = ct R N) (hm : m = p * g) (hz : z.toInt = u t.toInt.toNat) (hm2 : m2 = m * z) (hy : y = x + m2) (gc2 : ct2 = tup ct R N y) (hi2 : i2 = i + 1) : PRT f c w N b u K i2 (ct2 R) := by
  subst hi2 gc2
  have hw := gs_w1 hG hK hi
  have et : wtg f K i = t.toInt.toNat := by unfold wtg; rw [← ht]
  have eJ : (w (wtg f K i)).toInt < 0 := by rw [et, ← hv]; exact hv0
  have hut := hu (wtg f K i) (by omega)
  intro j hj
  by_cases q : j = N
  · subst q
    rw [tup_at, if_pos rfl, gsm_sel hs]
    rw [if_pos eJ, Int.mul_add]
    have h1 := h j hj
    rw [if_pos rfl, ← hx] at h1
    have h2 := gsm_b (c := c) hG hK (u := fun t => if (w t).toInt < 0 then u t else 0) (neg_rng hu) (i := i) (by omega) hb
    have h3 := tl_small (B := 0) (C := 0) (x := p) (y := g) (by omega) (by omega)
    have h4 : b * wwt f K i ≤ 5 * 3 := Int.mul_le_mul hb.2 hw.2.1 (by omega) (by omega)
    have h5 := Int.mul_nonneg hb.1 (show 0 ≤ wwt f K i by omega)
    have em : m.toInt = b * wwt f K i := by rw [hm, h3.2.2.1, hp, hg]
    rw [← et] at hz
    have h6 := tl_small (B := 0) (C := 0) (x := m) (y := z) (by omega) (by omega)
    have h7 : m.toInt * z.toInt ≤ 15 * 9 := Int.mul_le_mul (by omega) (by omega) (by omega) (by omega)
    have h8 := Int.mul_nonneg (show 0 ≤ m.toInt by omega) (show 0 ≤ z.toInt by omega)
    have em2 : m2.toInt = b * (wwt f K i * u (wtg f K i)) := by rw [hm2, h6.2.2.1, em, hz, Int.mul_assoc]
    rw [hy, (tl_small (B := 0) (C := 0) (x := x) (y := m2) (by omega) (by rw [hm2, h6.2.2.1]; omega)).1]
    omega
  · have hne : ¬ (w (wtg f K i)).toInt = (j : Int) := by omega
    rw [tup_ne _ _ (Or.inr q), h j hj, gsm_sel hs, gsm_sel hs]
    rw [if_neg q, if_neg q]
    rw [if_neg hne, Int.mul_zero, Int.add_zero]
theorem ALL_next {i i2 : Nat} {g al y : Int64} (hG : GS f) (hK : K < 12) (h : al.toInt = gsm f c K (fun _ => 1) i) (hi : i < wys f K) (hs : wsel f c K i) (hg : g.toInt = wwt f K i) (hy : y = al + g) (hi2 : i2 = i + 1) : y.toInt = gsm f c K (fun _ => 1) i2 := by
  subst hi2
  have hw := gs_w1 hG hK hi
  have h1 := gsm_bd (c := c) hG hK (u := fun _ => 1) (fun _ _ => by omega) i (by omega)
  have h2 : wys f K ≤ 3 := by have := (hG.r.2.1 K hK).2.2.1; unfold wys; omega
  rw [gsm_sel hs, hy, (tl_small (B := 0) (C := 0) (x := al) (y := g) (by omega) (by omega)).1]
  omega
theorem PRT_done (hG : GS f) (hR : RWI f c w (f 0).toInt.toNat N) (hM : MAT f c w N a b e u K (tI ct)) (ha : 0 ≤ a ∧ a ≤ 5) (hb : 0 ≤ b ∧ b ≤ 5) (he : 0 ≤ e ∧ e ≤ 1) (hu : ∀ t, t < (f 0).toInt.toNat → 0 ≤ u t ∧ u t ≤ 9) (hK : K < (f 0).toInt.toNat) {i K2 : Nat} (h : PRT f c w N b u K i (ct R)) (hi : i = wys f K) (hw : (w K).toInt = (R : Int)) (hRN : R < N) {al p m x y q m2 x2 y2 : Int64} (hal : al.toInt = gsm f c K (fun _ => 1) i) (hp : p.toInt = a) (hm : m = p * al) (hx : x = ct R R) (hy : y = x + m) (g2 : ct2 = tup ct R R y) (hq : q.toInt = e) (hm2 : m2 = q * al) (hx2 : x2 = ct2 R N) (hy2 : y2 = x2 + m2) (g3 : ct3 = tup ct2 R N y2) (hK2 : K2 = K + 1) : MAT f c w N a b e u K2 (tI ct3) := by
  have h0 := hG.r.1
  have hM2 := MAT_tup hR (MAT_tup hR hM g2 hK hw) g3 hK hw
  refine MAT_next hM2 (fun _ j hj => ?_) hK2
  have hK12 : K < 12 := by omega
  have h2 : wys f K ≤ 3 := by have := (hG.r.2.1 K hK12).2.2.1; unfold wys; omega
  have h1 := gsm_bd (c := c) hG hK12 (u := fun _ => 1) (fun _ _ => by omega) i (by omega)
  rw [show (w K).toInt.toNat = R by omega]
  have hpa := tl_small (B := 0) (C := 0) (x := p) (y := al) (by omega) (by omega)
  have hqa := tl_small (B := 0) (C := 0) (x := q) (y := al) (by omega) (by omega)
  have em : m.toInt = a * gsm f c K (fun _ => 1) i := by rw [hm, hpa.2.2.1, hp, hal]
  have em2 : m2.toInt = e * gsm f c K (fun _ => 1) i := by rw [hm2, hqa.2.2.1, hq, hal]
  have b1 := gsm_b (c := c) hG hK12 (u := fun _ => 1) (fun _ _ => by omega) (i := i) (by omega) ha
  have b2 := gsm_b (c := c) hG hK12 (u := fun _ => 1) (fun _ _ => by omega) (i := i) (b := e) (by omega) (by omega)
  have hR0 := h R (by omega)
  rw [if_neg (by omega), ← hx] at hR0
  have hN0 := h N (Nat.le_refl _)
  rw [if_pos rfl] at hN0
  have ex2 : x2 = ct R N := by rw [hx2, g2, tup_ne _ _ (Or.inr (by omega))]
  rw [← ex2] at hN0
  have b3 := gsm_b (c := c) hG hK12 (u := fun t => if (w t).toInt = (R : Int) then 1 else 0) ind_rng (i := i) (by omega) hb
  have b4 := gsm_b (c := c) hG hK12 (u := fun t => if (w t).toInt < 0 then u t else 0) (neg_rng hu) (i := i) (by omega) hb
  unfold arow
  rw [← hi]
  by_cases q1 : j = N
  · subst q1
    rw [g3, tup_at, if_pos rfl, hy2, (tl_small (B := 0) (C := 0) (x := x2) (y := m2) (by omega) (by omega)).1, hN0, em2]
  · rw [if_neg q1, g3, tup_ne _ _ (Or.inr q1)]
    by_cases q2 : j = R
    · subst q2
      rw [g2, tup_at, if_pos hw, hy, (tl_small (B := 0) (C := 0) (x := x) (y := m) (by omega) (by omega)).1, hR0, em]
      omega
    · rw [g2, tup_ne _ _ (Or.inr q2), if_neg (by omega), h j hj, if_neg q1]
      omega
/-- what the solving lays -/
def PLD (w : Nat → Int32) (N : Nat) (A : Nat → Nat → Int) (u0 l0 u l : Nat → Int64) (m : Nat) : Prop := (∀ t, (m ≤ t ∨ (w t).toInt < 0) → u t = u0 t ∧ l t = l0 t) ∧ ∀ t, t < m → 0 ≤ (w t).toInt → (u t).toInt * eb A N = (l t).toInt * eX A N (w t).toInt.toNat N ∧ 0 < (l t).toInt ∧ (l t).toInt ≤ eb A N ∧ 0 ≤ (u t).toInt ∧ (u t).toInt ≤ eX A N (w t).toInt.toNat N
theorem PLD_zero {A : Nat → Nat → Int} {u0 l0 : Nat → Int64} : PLD w N A u0 l0 u0 l0 0 := ⟨fun _ _ => ⟨rfl, rfl⟩, fun t h => absurd h (by omega)⟩
theorem PLD_skip {A : Nat → Nat → Int} {u0 l0 u l : Nat → Int64} {m m2 : Nat} (h : PLD w N A u0 l0 u l m) (hw : (w m).toInt < 0) (hm : m2 = m + 1) : PLD w N A u0 l0 u l m2 := by
  subst hm
  refine ⟨fun t ht => h.1 t (by omega), fun t ht h0 => ?_⟩
  by_cases q : t = m
  · subst q; omega
  · exact h.2 t (by omega) h0
theorem PLD_next {A : Nat → Nat → Int} {u0 l0 u l u' l' : Nat → Int64} {m m2 : Nat} {a b : Int} (h : PLD w N A u0 l0 u l m) (hw : 0 ≤ (w m).toInt) (hL : LYS u l u' l' m a b) (ha : a = eX A N (w m).toInt.toNat N) (hb : b = eb A N) (ha0 : 0 ≤ a) (hm : m2 = m + 1) : PLD w N A u0 l0 u' l' m2 := by
  subst hm
  refine ⟨fun t ht => ?_, fun t ht h0 => ?_⟩
  · have q : t ≠ m := fun z => by subst z; omega
    rw [(hL.1 t q).1, (hL.1 t q).2]
    exact h.1 t (by omega)
  · by_cases q : t = m
    · subst q
      obtain ⟨h1, h2, h3, h4, h5, _⟩ := hL.2 ha0
      rw [← ha, ← hb]
      exact ⟨h1, h2, h3, h4, h5⟩
    · rw [(hL.1 t q).1, (hL.1 t q).2]
      exact h.2 t (by omega) h0
/-- what a play brings, as fractions -/
def PLV (f c : Nat → Int32) (u l : Nat → Int64) : Prop := ∃ v, VAL f c v ∧ ∀ t, t < (f 0).toInt.toNat → 0 < (l t).toInt ∧ (l t).toInt ≤ 400000000 ∧ 0 ≤ (u t).toInt ∧ (u t).toInt ≤ 3600000000 ∧ (((u t).toInt : Int) : Rat) = (((l t).toInt : Int) : Rat) * v t
theorem PLV_of (hG : GS f) (hR : RWI f c w (f 0).toInt.toNat N) {A : Nat → Nat → Int} (hM : MAT f c w N 1 1 0 (upay f) (f 0).toInt.toNat A) {u0 l0 u l : Nat → Int64} {m : Nat} (hU : UPA (upay f) u0 l0 (f 0).toInt.toNat) (h : PLD w N A u0 l0 u l m) (hm : m = (f 0).toInt.toNat) : PLV f c u l := by
  subst hm
  have hE := MAT_EH hG hR hM (by omega) (by omega)
  have hL := MAT_LOK hG hR hM (by omega) (fun t ht => upay_rng hG ht)
  refine ⟨_, MAT_VAL hG hR hM (fun _ _ => rfl), fun t ht => ?_⟩
  by_cases q : 0 ≤ (w t).toInt
  · rw [if_pos q]
    have hN := (hR.1 t ht).2
    obtain ⟨h1, h2, h3, h4, h5⟩ := h.2 t ht q
    have b1 := hE.blt (c := N) (Nat.le_refl _)
    have b2 := hE.last hL (c := N) (Nat.le_refl _) (i := (w t).toInt.toNat) (by omega)
    have b3 := hE.bpos (c := N) (Nat.le_refl _)
    refine ⟨h2, by omega, h4, by omega, ?_⟩
    have hbR : ((eb A N : Int) : Rat) ≠ 0 := by
      intro z
      have : eb A N = 0 := by exact_mod_cast z
      omega
    have e1 : (((u t).toInt : Int) : Rat) * ((eb A N : Int) : Rat) = (((l t).toInt : Int) : Rat) * ((eX A N (w t).toInt.toNat N : Int) : Rat) := by rw [← Rat.intCast_mul, h1, Rat.intCast_mul]
    generalize ((eX A N (w t).toInt.toNat N : Int) : Rat) = X at e1 ⊢
    generalize ((eb A N : Int) : Rat) = B at e1 hbR ⊢
    have e2 : (((u t).toInt : Int) : Rat) = (((u t).toInt : Int) : Rat) * B / B := (Rat.mul_div_cancel hbR).symm
    rw [e2, e1]
    grind
  · rw [if_neg q]
    obtain ⟨h1, h2⟩ := h.1 t (Or.inr (by omega))
    obtain ⟨h3, h4⟩ := hU t ht
    have h5 := upay_rng hG ht
    rw [h1, h2, h3, h4]
    refine ⟨by omega, by omega, by omega, by omega, ?_⟩
    rw [show ((1 : Int) : Rat) = 1 from rfl]; grind
theorem PLV_last (hG : GS f) (hR : RWI f c w (f 0).toInt.toNat N) {A : Nat → Nat → Int} (hM : MAT f c w N 1 1 0 (upay f) (f 0).toInt.toNat A) {ct : Nat → Nat → Int64} (hS : SM N A N ct) {k : Nat} (hk : k < (f 0).toInt.toNat) (hw : 0 ≤ (w k).toInt) {x : Int64} (hx : x = ct (w k).toInt.toNat N) : x.toInt = eX A N (w k).toInt.toNat N ∧ 0 ≤ x.toInt := by
  have hE := MAT_EH hG hR hM (by omega) (by omega)
  have hL := MAT_LOK hG hR hM (by omega) (fun t ht => upay_rng hG ht)
  have hN := (hR.1 k hk).2
  have e : x.toInt = eX A N (w k).toInt.toNat N := by rw [hx]; exact hS _ _ (by omega) (Or.inr ⟨rfl, hL⟩)
  refine ⟨e, ?_⟩
  rw [e]
  refine hE.nonneg (fun i hi => ?_) _ (by omega)
  obtain ⟨k2, hk2, e2⟩ := hR.2.1 i hi
  have hA := hM k2 hk2 (by omega) N (Nat.le_refl _)
  rw [show (w k2).toInt.toNat = i by omega] at hA
  rw [hA]
  unfold arow
  rw [if_pos rfl, Int.zero_mul, Int.add_zero, Int.one_mul]
  have h0 := hG.r.1
  exact (gsm_bd (c := c) hG (k := k2) (by omega) (neg_rng (fun t ht => upay_rng hG ht)) (wys f k2) (Nat.le_refl _)).1
theorem ALL_skip {i i2 : Nat} {al : Int64} (h : al.toInt = gsm f c K (fun _ => 1) i) (hs : ¬ wsel f c K i) (hi2 : i2 = i + 1) : al.toInt = gsm f c K (fun _ => 1) i2 := by
  subst hi2
  rw [gsm_not hs]; exact h
theorem to_lt (hG : GS f) (hK : K < 12) {i : Nat} {t : Int32} (hi : (i : Int) < (f (25 + K)).toInt) (ht : t = f (37 + 3 * K + i)) : 0 ≤ t.toInt ∧ t.toInt < (f 0).toInt := by
  have h := gs_w1 hG hK (i := i) (by unfold wys; omega)
  rw [ht]; omega
end FI
theorem qw_131 : Cond.methodLink RX12 204 yX12_divisor ∈ wsL_law := tseg_6 (by decide +kernel) (List.mem_of_getElem? (i := 157) (by decide +kernel))
theorem qw_132 : Cond.static yX12_divisor ∈ wsL_law := tseg_6 (by decide +kernel) (List.mem_of_getElem? (i := 158) (by decide +kernel))
theorem qw_133 : Cond.code yX12_divisor cX12_divisor 10 (some .long) ∈ wsL_law := tseg_6 (by decide +kernel) (List.mem_of_getElem? (i := 159) (by decide +kernel))
theorem qw_134 : Cond.fieldLink RX12 46 "ChanceRingsModel" "up" "[J" ∈ wsL_law := tseg_5 (by decide +kernel) (List.mem_of_getElem? (i := 149) (by decide +kernel))
theorem qw_135 : Cond.fieldLink RX12 50 "ChanceRingsModel" "low" "[J" ∈ wsL_law := tseg_5 (by decide +kernel) (List.mem_of_getElem? (i := 150) (by decide +kernel))
theorem qw_136 : Cond.methodLink RX12 212 yX12_ends ∈ wsL_law := tseg_6 (by decide +kernel) (List.mem_of_getElem? (i := 141) (by decide +kernel))
theorem qw_137 : Cond.instanceMethod yX12_ends ∈ wsL_law := tseg_6 (by decide +kernel) (List.mem_of_getElem? (i := 143) (by decide +kernel))
theorem qw_138 : Cond.selects RX12 yX12_ends yX12_ends ∈ wsL_law := List.mem_filter.mpr ⟨List.mem_append_left _ (List.mem_of_getElem? (i := 73) (by decide +kernel)), by decide +kernel⟩
theorem qw_139 : Cond.code yX12_ends cX12_ends 3 (some .int) ∈ wsL_law := tseg_6 (by decide +kernel) (List.mem_of_getElem? (i := 144) (by decide +kernel))
theorem qw_140 : Cond.methodLink RX12 215 yX12_comes ∈ wsL_law := tseg_6 (by decide +kernel) (List.mem_of_getElem? (i := 145) (by decide +kernel))
theorem qw_141 : Cond.instanceMethod yX12_comes ∈ wsL_law := tseg_6 (by decide +kernel) (List.mem_of_getElem? (i := 147) (by decide +kernel))
theorem qw_142 : Cond.selects RX12 yX12_comes yX12_comes ∈ wsL_law := List.mem_filter.mpr ⟨List.mem_append_left _ (List.mem_of_getElem? (i := 74) (by decide +kernel)), by decide +kernel⟩
theorem qw_143 : Cond.code yX12_comes cX12_comes 5 (some .int) ∈ wsL_law := tseg_6 (by decide +kernel) (List.mem_of_getElem? (i := 148) (by decide +kernel))
theorem qw_144 : Cond.methodLink RX12 225 yX12_solves ∈ wsL_law := tseg_6 (by decide +kernel) (List.mem_of_getElem? (i := 163) (by decide +kernel))
theorem qw_145 : Cond.instanceMethod yX12_solves ∈ wsL_law := tseg_6 (by decide +kernel) (List.mem_of_getElem? (i := 165) (by decide +kernel))
theorem qw_146 : Cond.selects RX12 yX12_solves yX12_solves ∈ wsL_law := List.mem_filter.mpr ⟨List.mem_append_left _ (List.mem_of_getElem? (i := 77) (by decide +kernel)), by decide +kernel⟩
theorem qw_147 : Cond.code yX12_solves cX12_solves 9 (some .long) ∈ wsL_law := tseg_6 (by decide +kernel) (List.mem_of_getElem? (i := 166) (by decide +kernel))
theorem qw_148 : Cond.fieldLink RX12 43 "ChanceRingsModel" "row" "[I" ∈ wsL_law := tseg_5 (by decide +kernel) (List.mem_of_getElem? (i := 148) (by decide +kernel))
theorem qw_149 : Cond.methodLink RX12 218 yX12_lays ∈ wsL_law := tseg_6 (by decide +kernel) (List.mem_of_getElem? (i := 153) (by decide +kernel))
theorem qw_150 : Cond.instanceMethod yX12_lays ∈ wsL_law := tseg_6 (by decide +kernel) (List.mem_of_getElem? (i := 155) (by decide +kernel))
theorem qw_151 : Cond.selects RX12 yX12_lays yX12_lays ∈ wsL_law := List.mem_filter.mpr ⟨List.mem_append_left _ (List.mem_of_getElem? (i := 76) (by decide +kernel)), by decide +kernel⟩
theorem qw_152 : Cond.code yX12_lays cX12_lays 8 none ∈ wsL_law := tseg_6 (by decide +kernel) (List.mem_of_getElem? (i := 156) (by decide +kernel))
theorem qw_153 : Cond.methodLink RX12 222 yX12_bitOf ∈ wsL_law := tseg_6 (by decide +kernel) (List.mem_of_getElem? (i := 160) (by decide +kernel))
theorem qw_154 : Cond.static yX12_bitOf ∈ wsL_law := tseg_6 (by decide +kernel) (List.mem_of_getElem? (i := 161) (by decide +kernel))
theorem qw_155 : Cond.code yX12_bitOf cX12_bitOf 2 (some .boolean) ∈ wsL_law := tseg_6 (by decide +kernel) (List.mem_of_getElem? (i := 162) (by decide +kernel))
theorem dX12_lays_0 : decode cX12_lays 0 = .ok (.lload_n 2, 1) := by decide +kernel
theorem dX12_lays_1 : decode cX12_lays 1 = .ok (.lload 4, 2) := by decide +kernel
theorem dX12_lays_3 : decode cX12_lays 3 = .ok (.invokestatic 204, 3) := by decide +kernel
theorem dX12_lays_6 : decode cX12_lays 6 = .ok (.lstore 6, 2) := by decide +kernel
theorem dX12_lays_8 : decode cX12_lays 8 = .ok (.aload_n 0, 1) := by decide +kernel
theorem dX12_lays_9 : decode cX12_lays 9 = .ok (.getfield 46, 3) := by decide +kernel
theorem dX12_lays_12 : decode cX12_lays 12 = .ok (.iload_n 1, 1) := by decide +kernel
theorem dX12_lays_13 : decode cX12_lays 13 = .ok (.lload_n 2, 1) := by decide +kernel
theorem dX12_lays_14 : decode cX12_lays 14 = .ok (.lload 6, 2) := by decide +kernel
theorem dX12_lays_16 : decode cX12_lays 16 = .ok (.ldiv, 1) := by decide +kernel
theorem dX12_lays_17 : decode cX12_lays 17 = .ok (.lastore, 1) := by decide +kernel
theorem dX12_lays_18 : decode cX12_lays 18 = .ok (.aload_n 0, 1) := by decide +kernel
theorem dX12_lays_19 : decode cX12_lays 19 = .ok (.getfield 50, 3) := by decide +kernel
theorem dX12_lays_22 : decode cX12_lays 22 = .ok (.iload_n 1, 1) := by decide +kernel
theorem dX12_lays_23 : decode cX12_lays 23 = .ok (.lload 4, 2) := by decide +kernel
theorem dX12_lays_25 : decode cX12_lays 25 = .ok (.lload 6, 2) := by decide +kernel
theorem dX12_lays_27 : decode cX12_lays 27 = .ok (.ldiv, 1) := by decide +kernel
theorem dX12_lays_28 : decode cX12_lays 28 = .ok (.lastore, 1) := by decide +kernel
theorem dX12_lays_29 : decode cX12_lays 29 = .ok (.return_, 1) := by decide +kernel
theorem dX12_plays_0 : decode cX12_plays 0 = .ok (.aload_n 0, 1) := by decide +kernel
theorem dX12_plays_1 : decode cX12_plays 1 = .ok (.aload_n 0, 1) := by decide +kernel
theorem dX12_plays_2 : decode cX12_plays 2 = .ok (.invokevirtual 212, 3) := by decide +kernel
theorem dX12_plays_5 : decode cX12_plays 5 = .ok (.invokevirtual 215, 3) := by decide +kernel
theorem dX12_plays_8 : decode cX12_plays 8 = .ok (.istore_n 3, 1) := by decide +kernel
theorem dX12_plays_9 : decode cX12_plays 9 = .ok (.iconst 0, 1) := by decide +kernel
theorem dX12_plays_10 : decode cX12_plays 10 = .ok (.istore 4, 2) := by decide +kernel
theorem dX12_plays_12 : decode cX12_plays 12 = .ok (.iconst 0, 1) := by decide +kernel
theorem dX12_plays_13 : decode cX12_plays 13 = .ok (.istore 5, 2) := by decide +kernel
theorem dX12_plays_15 : decode cX12_plays 15 = .ok (.iload 5, 2) := by decide +kernel
theorem dX12_plays_17 : decode cX12_plays 17 = .ok (.aload_n 0, 1) := by decide +kernel
theorem dX12_plays_18 : decode cX12_plays 18 = .ok (.getfield 13, 3) := by decide +kernel
theorem dX12_plays_21 : decode cX12_plays 21 = .ok (.iconst 0, 1) := by decide +kernel
theorem dX12_plays_22 : decode cX12_plays 22 = .ok (.iaload, 1) := by decide +kernel
theorem dX12_plays_23 : decode cX12_plays 23 = .ok (.if_icmp .ge 87, 3) := by decide +kernel
theorem dX12_plays_26 : decode cX12_plays 26 = .ok (.aload_n 0, 1) := by decide +kernel
theorem dX12_plays_27 : decode cX12_plays 27 = .ok (.getfield 43, 3) := by decide +kernel
theorem dX12_plays_30 : decode cX12_plays 30 = .ok (.iload 5, 2) := by decide +kernel
theorem dX12_plays_32 : decode cX12_plays 32 = .ok (.iconst (-1), 1) := by decide +kernel
theorem dX12_plays_33 : decode cX12_plays 33 = .ok (.iastore, 1) := by decide +kernel
theorem dX12_plays_34 : decode cX12_plays 34 = .ok (.aload_n 0, 1) := by decide +kernel
theorem dX12_plays_35 : decode cX12_plays 35 = .ok (.iload 5, 2) := by decide +kernel
theorem dX12_plays_37 : decode cX12_plays 37 = .ok (.aload_n 0, 1) := by decide +kernel
theorem dX12_plays_38 : decode cX12_plays 38 = .ok (.iload 5, 2) := by decide +kernel
theorem dX12_plays_40 : decode cX12_plays 40 = .ok (.iconst 0, 1) := by decide +kernel
theorem dX12_plays_41 : decode cX12_plays 41 = .ok (.invokevirtual 187, 3) := by decide +kernel
theorem dX12_plays_44 : decode cX12_plays 44 = .ok (.ifCond .eq 21, 3) := by decide +kernel
theorem dX12_plays_47 : decode cX12_plays 47 = .ok (.iload_n 2, 1) := by decide +kernel
theorem dX12_plays_48 : decode cX12_plays 48 = .ok (.ifCond .ne 17, 3) := by decide +kernel
theorem dX12_plays_51 : decode cX12_plays 51 = .ok (.aload_n 0, 1) := by decide +kernel
theorem dX12_plays_52 : decode cX12_plays 52 = .ok (.getfield 13, 3) := by decide +kernel
theorem dX12_plays_55 : decode cX12_plays 55 = .ok (.bipush 13, 2) := by decide +kernel
theorem dX12_plays_57 : decode cX12_plays 57 = .ok (.iload 5, 2) := by decide +kernel
theorem dX12_plays_59 : decode cX12_plays 59 = .ok (.iadd, 1) := by decide +kernel
theorem dX12_plays_60 : decode cX12_plays 60 = .ok (.iaload, 1) := by decide +kernel
theorem dX12_plays_61 : decode cX12_plays 61 = .ok (.i2l, 1) := by decide +kernel
theorem dX12_plays_62 : decode cX12_plays 62 = .ok (.goto 4, 3) := by decide +kernel
theorem dX12_plays_65 : decode cX12_plays 65 = .ok (.lconst 0, 1) := by decide +kernel
theorem dX12_plays_66 : decode cX12_plays 66 = .ok (.lconst 1, 1) := by decide +kernel
theorem dX12_plays_67 : decode cX12_plays 67 = .ok (.invokevirtual 218, 3) := by decide +kernel
theorem dX12_plays_70 : decode cX12_plays 70 = .ok (.aload_n 0, 1) := by decide +kernel
theorem dX12_plays_71 : decode cX12_plays 71 = .ok (.iload 5, 2) := by decide +kernel
theorem dX12_plays_73 : decode cX12_plays 73 = .ok (.iconst 0, 1) := by decide +kernel
theorem dX12_plays_74 : decode cX12_plays 74 = .ok (.invokevirtual 187, 3) := by decide +kernel
theorem dX12_plays_77 : decode cX12_plays 77 = .ok (.ifCond .ne 27, 3) := by decide +kernel
theorem dX12_plays_80 : decode cX12_plays 80 = .ok (.iload_n 3, 1) := by decide +kernel
theorem dX12_plays_81 : decode cX12_plays 81 = .ok (.iload 5, 2) := by decide +kernel
theorem dX12_plays_83 : decode cX12_plays 83 = .ok (.invokestatic 222, 3) := by decide +kernel
theorem dX12_plays_86 : decode cX12_plays 86 = .ok (.ifCond .ne 6, 3) := by decide +kernel
theorem dX12_plays_89 : decode cX12_plays 89 = .ok (.goto 15, 3) := by decide +kernel
theorem dX12_plays_92 : decode cX12_plays 92 = .ok (.aload_n 0, 1) := by decide +kernel
theorem dX12_plays_93 : decode cX12_plays 93 = .ok (.getfield 43, 3) := by decide +kernel
theorem dX12_plays_96 : decode cX12_plays 96 = .ok (.iload 5, 2) := by decide +kernel
theorem dX12_plays_98 : decode cX12_plays 98 = .ok (.iload 4, 2) := by decide +kernel
theorem dX12_plays_100 : decode cX12_plays 100 = .ok (.iastore, 1) := by decide +kernel
theorem dX12_plays_101 : decode cX12_plays 101 = .ok (.iinc 4 1, 3) := by decide +kernel
theorem dX12_plays_104 : decode cX12_plays 104 = .ok (.iinc 5 1, 3) := by decide +kernel
theorem dX12_plays_107 : decode cX12_plays 107 = .ok (.goto (-92), 3) := by decide +kernel
theorem dX12_plays_110 : decode cX12_plays 110 = .ok (.iload_n 1, 1) := by decide +kernel
theorem dX12_plays_111 : decode cX12_plays 111 = .ok (.ifCond .ne 7, 3) := by decide +kernel
theorem dX12_plays_114 : decode cX12_plays 114 = .ok (.lconst 1, 1) := by decide +kernel
theorem dX12_plays_115 : decode cX12_plays 115 = .ok (.goto 5, 3) := by decide +kernel
theorem dX12_plays_118 : decode cX12_plays 118 = .ok (.iload_n 1, 1) := by decide +kernel
theorem dX12_plays_119 : decode cX12_plays 119 = .ok (.i2l, 1) := by decide +kernel
theorem dX12_plays_120 : decode cX12_plays 120 = .ok (.lstore 5, 2) := by decide +kernel
theorem dX12_plays_122 : decode cX12_plays 122 = .ok (.iload_n 1, 1) := by decide +kernel
theorem dX12_plays_123 : decode cX12_plays 123 = .ok (.ifCond .ne 7, 3) := by decide +kernel
theorem dX12_plays_126 : decode cX12_plays 126 = .ok (.lconst 1, 1) := by decide +kernel
theorem dX12_plays_127 : decode cX12_plays 127 = .ok (.goto 7, 3) := by decide +kernel
theorem dX12_plays_130 : decode cX12_plays 130 = .ok (.iload_n 1, 1) := by decide +kernel
theorem dX12_plays_131 : decode cX12_plays 131 = .ok (.iconst 1, 1) := by decide +kernel
theorem dX12_plays_132 : decode cX12_plays 132 = .ok (.isub, 1) := by decide +kernel
theorem dX12_plays_133 : decode cX12_plays 133 = .ok (.i2l, 1) := by decide +kernel
theorem dX12_plays_134 : decode cX12_plays 134 = .ok (.lstore 7, 2) := by decide +kernel
theorem dX12_plays_136 : decode cX12_plays 136 = .ok (.iconst 0, 1) := by decide +kernel
theorem dX12_plays_137 : decode cX12_plays 137 = .ok (.istore 9, 2) := by decide +kernel
theorem dX12_plays_139 : decode cX12_plays 139 = .ok (.iload 9, 2) := by decide +kernel
theorem dX12_plays_141 : decode cX12_plays 141 = .ok (.aload_n 0, 1) := by decide +kernel
theorem dX12_plays_142 : decode cX12_plays 142 = .ok (.getfield 13, 3) := by decide +kernel
theorem dX12_plays_145 : decode cX12_plays 145 = .ok (.iconst 0, 1) := by decide +kernel
theorem dX12_plays_146 : decode cX12_plays 146 = .ok (.iaload, 1) := by decide +kernel
theorem dX12_plays_147 : decode cX12_plays 147 = .ok (.if_icmp .ge 271, 3) := by decide +kernel
theorem dX12_plays_150 : decode cX12_plays 150 = .ok (.aload_n 0, 1) := by decide +kernel
theorem dX12_plays_151 : decode cX12_plays 151 = .ok (.getfield 43, 3) := by decide +kernel
theorem dX12_plays_154 : decode cX12_plays 154 = .ok (.iload 9, 2) := by decide +kernel
theorem dX12_plays_156 : decode cX12_plays 156 = .ok (.iaload, 1) := by decide +kernel
theorem dX12_plays_157 : decode cX12_plays 157 = .ok (.ifCond .ge 6, 3) := by decide +kernel
theorem dX12_plays_160 : decode cX12_plays 160 = .ok (.goto 252, 3) := by decide +kernel
theorem dX12_plays_163 : decode cX12_plays 163 = .ok (.iconst 0, 1) := by decide +kernel
theorem dX12_plays_164 : decode cX12_plays 164 = .ok (.istore 10, 2) := by decide +kernel
theorem dX12_plays_166 : decode cX12_plays 166 = .ok (.iload 10, 2) := by decide +kernel
theorem dX12_plays_168 : decode cX12_plays 168 = .ok (.iload 4, 2) := by decide +kernel
theorem dX12_plays_170 : decode cX12_plays 170 = .ok (.if_icmp .gt 25, 3) := by decide +kernel
theorem dX12_plays_173 : decode cX12_plays 173 = .ok (.aload_n 0, 1) := by decide +kernel
theorem dX12_plays_174 : decode cX12_plays 174 = .ok (.getfield 55, 3) := by decide +kernel
theorem dX12_plays_177 : decode cX12_plays 177 = .ok (.aload_n 0, 1) := by decide +kernel
theorem dX12_plays_178 : decode cX12_plays 178 = .ok (.getfield 43, 3) := by decide +kernel
theorem dX12_plays_181 : decode cX12_plays 181 = .ok (.iload 9, 2) := by decide +kernel
theorem dX12_plays_183 : decode cX12_plays 183 = .ok (.iaload, 1) := by decide +kernel
theorem dX12_plays_184 : decode cX12_plays 184 = .ok (.aaload, 1) := by decide +kernel
theorem dX12_plays_185 : decode cX12_plays 185 = .ok (.iload 10, 2) := by decide +kernel
theorem dX12_plays_187 : decode cX12_plays 187 = .ok (.lconst 0, 1) := by decide +kernel
theorem dX12_plays_188 : decode cX12_plays 188 = .ok (.lastore, 1) := by decide +kernel
theorem dX12_plays_189 : decode cX12_plays 189 = .ok (.iinc 10 1, 3) := by decide +kernel
theorem dX12_plays_192 : decode cX12_plays 192 = .ok (.goto (-26), 3) := by decide +kernel
theorem dX12_plays_195 : decode cX12_plays 195 = .ok (.lconst 0, 1) := by decide +kernel
theorem dX12_plays_196 : decode cX12_plays 196 = .ok (.lstore 10, 2) := by decide +kernel
theorem dX12_plays_198 : decode cX12_plays 198 = .ok (.iconst 0, 1) := by decide +kernel
theorem dX12_plays_199 : decode cX12_plays 199 = .ok (.istore 12, 2) := by decide +kernel
theorem dX12_plays_201 : decode cX12_plays 201 = .ok (.iload 12, 2) := by decide +kernel
theorem dX12_plays_203 : decode cX12_plays 203 = .ok (.aload_n 0, 1) := by decide +kernel
theorem dX12_plays_204 : decode cX12_plays 204 = .ok (.getfield 13, 3) := by decide +kernel
theorem dX12_plays_207 : decode cX12_plays 207 = .ok (.bipush 25, 2) := by decide +kernel
theorem dX12_plays_209 : decode cX12_plays 209 = .ok (.iload 9, 2) := by decide +kernel
theorem dX12_plays_211 : decode cX12_plays 211 = .ok (.iadd, 1) := by decide +kernel
theorem dX12_plays_212 : decode cX12_plays 212 = .ok (.iaload, 1) := by decide +kernel
theorem dX12_plays_213 : decode cX12_plays 213 = .ok (.if_icmp .ge 148, 3) := by decide +kernel
theorem dX12_plays_216 : decode cX12_plays 216 = .ok (.aload_n 0, 1) := by decide +kernel
theorem dX12_plays_217 : decode cX12_plays 217 = .ok (.iload 9, 2) := by decide +kernel
theorem dX12_plays_219 : decode cX12_plays 219 = .ok (.iconst 3, 1) := by decide +kernel
theorem dX12_plays_220 : decode cX12_plays 220 = .ok (.invokevirtual 187, 3) := by decide +kernel
theorem dX12_plays_223 : decode cX12_plays 223 = .ok (.ifCond .ne 18, 3) := by decide +kernel
theorem dX12_plays_226 : decode cX12_plays 226 = .ok (.aload_n 0, 1) := by decide +kernel
theorem dX12_plays_227 : decode cX12_plays 227 = .ok (.getfield 40, 3) := by decide +kernel
theorem dX12_plays_230 : decode cX12_plays 230 = .ok (.iload 9, 2) := by decide +kernel
theorem dX12_plays_232 : decode cX12_plays 232 = .ok (.iaload, 1) := by decide +kernel
theorem dX12_plays_233 : decode cX12_plays 233 = .ok (.iload 12, 2) := by decide +kernel
theorem dX12_plays_235 : decode cX12_plays 235 = .ok (.if_icmp .eq 6, 3) := by decide +kernel
theorem dX12_plays_238 : decode cX12_plays 238 = .ok (.goto 117, 3) := by decide +kernel
theorem dX12_plays_241 : decode cX12_plays 241 = .ok (.aload_n 0, 1) := by decide +kernel
theorem dX12_plays_242 : decode cX12_plays 242 = .ok (.iload 9, 2) := by decide +kernel
theorem dX12_plays_244 : decode cX12_plays 244 = .ok (.iconst 3, 1) := by decide +kernel
theorem dX12_plays_245 : decode cX12_plays 245 = .ok (.invokevirtual 187, 3) := by decide +kernel
theorem dX12_plays_248 : decode cX12_plays 248 = .ok (.ifCond .eq 15, 3) := by decide +kernel
theorem dX12_plays_251 : decode cX12_plays 251 = .ok (.aload_n 0, 1) := by decide +kernel
theorem dX12_plays_252 : decode cX12_plays 252 = .ok (.iload 9, 2) := by decide +kernel
theorem dX12_plays_254 : decode cX12_plays 254 = .ok (.iload 12, 2) := by decide +kernel
theorem dX12_plays_256 : decode cX12_plays 256 = .ok (.invokevirtual 201, 3) := by decide +kernel
theorem dX12_plays_259 : decode cX12_plays 259 = .ok (.i2l, 1) := by decide +kernel
theorem dX12_plays_260 : decode cX12_plays 260 = .ok (.goto 4, 3) := by decide +kernel
theorem dX12_plays_263 : decode cX12_plays 263 = .ok (.lconst 1, 1) := by decide +kernel
theorem dX12_plays_264 : decode cX12_plays 264 = .ok (.lstore 13, 2) := by decide +kernel
theorem dX12_plays_266 : decode cX12_plays 266 = .ok (.aload_n 0, 1) := by decide +kernel
theorem dX12_plays_267 : decode cX12_plays 267 = .ok (.iload 9, 2) := by decide +kernel
theorem dX12_plays_269 : decode cX12_plays 269 = .ok (.iload 12, 2) := by decide +kernel
theorem dX12_plays_271 : decode cX12_plays 271 = .ok (.invokevirtual 197, 3) := by decide +kernel
theorem dX12_plays_274 : decode cX12_plays 274 = .ok (.istore 15, 2) := by decide +kernel
theorem dX12_plays_276 : decode cX12_plays 276 = .ok (.lload 10, 2) := by decide +kernel
theorem dX12_plays_278 : decode cX12_plays 278 = .ok (.lload 13, 2) := by decide +kernel
theorem dX12_plays_280 : decode cX12_plays 280 = .ok (.ladd, 1) := by decide +kernel
theorem dX12_plays_281 : decode cX12_plays 281 = .ok (.lstore 10, 2) := by decide +kernel
theorem dX12_plays_283 : decode cX12_plays 283 = .ok (.aload_n 0, 1) := by decide +kernel
theorem dX12_plays_284 : decode cX12_plays 284 = .ok (.getfield 43, 3) := by decide +kernel
theorem dX12_plays_287 : decode cX12_plays 287 = .ok (.iload 15, 2) := by decide +kernel
theorem dX12_plays_289 : decode cX12_plays 289 = .ok (.iaload, 1) := by decide +kernel
theorem dX12_plays_290 : decode cX12_plays 290 = .ok (.ifCond .lt 34, 3) := by decide +kernel
theorem dX12_plays_293 : decode cX12_plays 293 = .ok (.aload_n 0, 1) := by decide +kernel
theorem dX12_plays_294 : decode cX12_plays 294 = .ok (.getfield 55, 3) := by decide +kernel
theorem dX12_plays_297 : decode cX12_plays 297 = .ok (.aload_n 0, 1) := by decide +kernel
theorem dX12_plays_298 : decode cX12_plays 298 = .ok (.getfield 43, 3) := by decide +kernel
theorem dX12_plays_301 : decode cX12_plays 301 = .ok (.iload 9, 2) := by decide +kernel
theorem dX12_plays_303 : decode cX12_plays 303 = .ok (.iaload, 1) := by decide +kernel
theorem dX12_plays_304 : decode cX12_plays 304 = .ok (.aaload, 1) := by decide +kernel
theorem dX12_plays_305 : decode cX12_plays 305 = .ok (.aload_n 0, 1) := by decide +kernel
theorem dX12_plays_306 : decode cX12_plays 306 = .ok (.getfield 43, 3) := by decide +kernel
theorem dX12_plays_309 : decode cX12_plays 309 = .ok (.iload 15, 2) := by decide +kernel
theorem dX12_plays_311 : decode cX12_plays 311 = .ok (.iaload, 1) := by decide +kernel
theorem dX12_plays_312 : decode cX12_plays 312 = .ok (.dup2, 1) := by decide +kernel
theorem dX12_plays_313 : decode cX12_plays 313 = .ok (.laload, 1) := by decide +kernel
theorem dX12_plays_314 : decode cX12_plays 314 = .ok (.lload 7, 2) := by decide +kernel
theorem dX12_plays_316 : decode cX12_plays 316 = .ok (.lload 13, 2) := by decide +kernel
theorem dX12_plays_318 : decode cX12_plays 318 = .ok (.lmul, 1) := by decide +kernel
theorem dX12_plays_319 : decode cX12_plays 319 = .ok (.lsub, 1) := by decide +kernel
theorem dX12_plays_320 : decode cX12_plays 320 = .ok (.lastore, 1) := by decide +kernel
theorem dX12_plays_321 : decode cX12_plays 321 = .ok (.goto 34, 3) := by decide +kernel
theorem dX12_plays_324 : decode cX12_plays 324 = .ok (.aload_n 0, 1) := by decide +kernel
theorem dX12_plays_325 : decode cX12_plays 325 = .ok (.getfield 55, 3) := by decide +kernel
theorem dX12_plays_328 : decode cX12_plays 328 = .ok (.aload_n 0, 1) := by decide +kernel
theorem dX12_plays_329 : decode cX12_plays 329 = .ok (.getfield 43, 3) := by decide +kernel
theorem dX12_plays_332 : decode cX12_plays 332 = .ok (.iload 9, 2) := by decide +kernel
theorem dX12_plays_334 : decode cX12_plays 334 = .ok (.iaload, 1) := by decide +kernel
theorem dX12_plays_335 : decode cX12_plays 335 = .ok (.aaload, 1) := by decide +kernel
theorem dX12_plays_336 : decode cX12_plays 336 = .ok (.iload 4, 2) := by decide +kernel
theorem dX12_plays_338 : decode cX12_plays 338 = .ok (.dup2, 1) := by decide +kernel
theorem dX12_plays_339 : decode cX12_plays 339 = .ok (.laload, 1) := by decide +kernel
theorem dX12_plays_340 : decode cX12_plays 340 = .ok (.lload 7, 2) := by decide +kernel
theorem dX12_plays_342 : decode cX12_plays 342 = .ok (.lload 13, 2) := by decide +kernel
theorem dX12_plays_344 : decode cX12_plays 344 = .ok (.lmul, 1) := by decide +kernel
theorem dX12_plays_345 : decode cX12_plays 345 = .ok (.aload_n 0, 1) := by decide +kernel
theorem dX12_plays_346 : decode cX12_plays 346 = .ok (.getfield 46, 3) := by decide +kernel
theorem dX12_plays_349 : decode cX12_plays 349 = .ok (.iload 15, 2) := by decide +kernel
theorem dX12_plays_351 : decode cX12_plays 351 = .ok (.laload, 1) := by decide +kernel
theorem dX12_plays_352 : decode cX12_plays 352 = .ok (.lmul, 1) := by decide +kernel
theorem dX12_plays_353 : decode cX12_plays 353 = .ok (.ladd, 1) := by decide +kernel
theorem dX12_plays_354 : decode cX12_plays 354 = .ok (.lastore, 1) := by decide +kernel
theorem dX12_plays_355 : decode cX12_plays 355 = .ok (.iinc 12 1, 3) := by decide +kernel
theorem dX12_plays_358 : decode cX12_plays 358 = .ok (.goto (-157), 3) := by decide +kernel
theorem dX12_plays_361 : decode cX12_plays 361 = .ok (.aload_n 0, 1) := by decide +kernel
theorem dX12_plays_362 : decode cX12_plays 362 = .ok (.getfield 55, 3) := by decide +kernel
theorem dX12_plays_365 : decode cX12_plays 365 = .ok (.aload_n 0, 1) := by decide +kernel
theorem dX12_plays_366 : decode cX12_plays 366 = .ok (.getfield 43, 3) := by decide +kernel
theorem dX12_plays_369 : decode cX12_plays 369 = .ok (.iload 9, 2) := by decide +kernel
theorem dX12_plays_371 : decode cX12_plays 371 = .ok (.iaload, 1) := by decide +kernel
theorem dX12_plays_372 : decode cX12_plays 372 = .ok (.aaload, 1) := by decide +kernel
theorem dX12_plays_373 : decode cX12_plays 373 = .ok (.aload_n 0, 1) := by decide +kernel
theorem dX12_plays_374 : decode cX12_plays 374 = .ok (.getfield 43, 3) := by decide +kernel
theorem dX12_plays_377 : decode cX12_plays 377 = .ok (.iload 9, 2) := by decide +kernel
theorem dX12_plays_379 : decode cX12_plays 379 = .ok (.iaload, 1) := by decide +kernel
theorem dX12_plays_380 : decode cX12_plays 380 = .ok (.dup2, 1) := by decide +kernel
theorem dX12_plays_381 : decode cX12_plays 381 = .ok (.laload, 1) := by decide +kernel
theorem dX12_plays_382 : decode cX12_plays 382 = .ok (.lload 5, 2) := by decide +kernel
theorem dX12_plays_384 : decode cX12_plays 384 = .ok (.lload 10, 2) := by decide +kernel
theorem dX12_plays_386 : decode cX12_plays 386 = .ok (.lmul, 1) := by decide +kernel
theorem dX12_plays_387 : decode cX12_plays 387 = .ok (.ladd, 1) := by decide +kernel
theorem dX12_plays_388 : decode cX12_plays 388 = .ok (.lastore, 1) := by decide +kernel
theorem dX12_plays_389 : decode cX12_plays 389 = .ok (.aload_n 0, 1) := by decide +kernel
theorem dX12_plays_390 : decode cX12_plays 390 = .ok (.getfield 55, 3) := by decide +kernel
theorem dX12_plays_393 : decode cX12_plays 393 = .ok (.aload_n 0, 1) := by decide +kernel
theorem dX12_plays_394 : decode cX12_plays 394 = .ok (.getfield 43, 3) := by decide +kernel
theorem dX12_plays_397 : decode cX12_plays 397 = .ok (.iload 9, 2) := by decide +kernel
theorem dX12_plays_399 : decode cX12_plays 399 = .ok (.iaload, 1) := by decide +kernel
theorem dX12_plays_400 : decode cX12_plays 400 = .ok (.aaload, 1) := by decide +kernel
theorem dX12_plays_401 : decode cX12_plays 401 = .ok (.iload 4, 2) := by decide +kernel
theorem dX12_plays_403 : decode cX12_plays 403 = .ok (.dup2, 1) := by decide +kernel
theorem dX12_plays_404 : decode cX12_plays 404 = .ok (.laload, 1) := by decide +kernel
theorem dX12_plays_405 : decode cX12_plays 405 = .ok (.iload_n 2, 1) := by decide +kernel
theorem dX12_plays_406 : decode cX12_plays 406 = .ok (.i2l, 1) := by decide +kernel
theorem dX12_plays_407 : decode cX12_plays 407 = .ok (.lload 10, 2) := by decide +kernel
theorem dX12_plays_409 : decode cX12_plays 409 = .ok (.lmul, 1) := by decide +kernel
theorem dX12_plays_410 : decode cX12_plays 410 = .ok (.ladd, 1) := by decide +kernel
theorem dX12_plays_411 : decode cX12_plays 411 = .ok (.lastore, 1) := by decide +kernel
theorem dX12_plays_412 : decode cX12_plays 412 = .ok (.iinc 9 1, 3) := by decide +kernel
theorem dX12_plays_415 : decode cX12_plays 415 = .ok (.goto (-276), 3) := by decide +kernel
theorem dX12_plays_418 : decode cX12_plays 418 = .ok (.aload_n 0, 1) := by decide +kernel
theorem dX12_plays_419 : decode cX12_plays 419 = .ok (.iload 4, 2) := by decide +kernel
theorem dX12_plays_421 : decode cX12_plays 421 = .ok (.invokevirtual 225, 3) := by decide +kernel
theorem dX12_plays_424 : decode cX12_plays 424 = .ok (.lstore 9, 2) := by decide +kernel
theorem dX12_plays_426 : decode cX12_plays 426 = .ok (.iconst 0, 1) := by decide +kernel
theorem dX12_plays_427 : decode cX12_plays 427 = .ok (.istore 11, 2) := by decide +kernel
theorem dX12_plays_429 : decode cX12_plays 429 = .ok (.iload 11, 2) := by decide +kernel
theorem dX12_plays_431 : decode cX12_plays 431 = .ok (.aload_n 0, 1) := by decide +kernel
theorem dX12_plays_432 : decode cX12_plays 432 = .ok (.getfield 13, 3) := by decide +kernel
theorem dX12_plays_435 : decode cX12_plays 435 = .ok (.iconst 0, 1) := by decide +kernel
theorem dX12_plays_436 : decode cX12_plays 436 = .ok (.iaload, 1) := by decide +kernel
theorem dX12_plays_437 : decode cX12_plays 437 = .ok (.if_icmp .ge 81, 3) := by decide +kernel
theorem dX12_plays_440 : decode cX12_plays 440 = .ok (.aload_n 0, 1) := by decide +kernel
theorem dX12_plays_441 : decode cX12_plays 441 = .ok (.getfield 43, 3) := by decide +kernel
theorem dX12_plays_444 : decode cX12_plays 444 = .ok (.iload 11, 2) := by decide +kernel
theorem dX12_plays_446 : decode cX12_plays 446 = .ok (.iaload, 1) := by decide +kernel
theorem dX12_plays_447 : decode cX12_plays 447 = .ok (.ifCond .lt 65, 3) := by decide +kernel
theorem dX12_plays_450 : decode cX12_plays 450 = .ok (.aload_n 0, 1) := by decide +kernel
theorem dX12_plays_451 : decode cX12_plays 451 = .ok (.iload 11, 2) := by decide +kernel
theorem dX12_plays_453 : decode cX12_plays 453 = .ok (.lload 9, 2) := by decide +kernel
theorem dX12_plays_455 : decode cX12_plays 455 = .ok (.lconst 0, 1) := by decide +kernel
theorem dX12_plays_456 : decode cX12_plays 456 = .ok (.lcmp, 1) := by decide +kernel
theorem dX12_plays_457 : decode cX12_plays 457 = .ok (.ifCond .ge 22, 3) := by decide +kernel
theorem dX12_plays_479 : decode cX12_plays 479 = .ok (.aload_n 0, 1) := by decide +kernel
theorem dX12_plays_480 : decode cX12_plays 480 = .ok (.getfield 55, 3) := by decide +kernel
theorem dX12_plays_483 : decode cX12_plays 483 = .ok (.aload_n 0, 1) := by decide +kernel
theorem dX12_plays_484 : decode cX12_plays 484 = .ok (.getfield 43, 3) := by decide +kernel
theorem dX12_plays_487 : decode cX12_plays 487 = .ok (.iload 11, 2) := by decide +kernel
theorem dX12_plays_489 : decode cX12_plays 489 = .ok (.iaload, 1) := by decide +kernel
theorem dX12_plays_490 : decode cX12_plays 490 = .ok (.aaload, 1) := by decide +kernel
theorem dX12_plays_491 : decode cX12_plays 491 = .ok (.iload 4, 2) := by decide +kernel
theorem dX12_plays_493 : decode cX12_plays 493 = .ok (.laload, 1) := by decide +kernel
theorem dX12_plays_494 : decode cX12_plays 494 = .ok (.lload 9, 2) := by decide +kernel
theorem dX12_plays_496 : decode cX12_plays 496 = .ok (.lconst 0, 1) := by decide +kernel
theorem dX12_plays_497 : decode cX12_plays 497 = .ok (.lcmp, 1) := by decide +kernel
theorem dX12_plays_498 : decode cX12_plays 498 = .ok (.ifCond .ge 9, 3) := by decide +kernel
theorem dX12_plays_507 : decode cX12_plays 507 = .ok (.lload 9, 2) := by decide +kernel
theorem dX12_plays_509 : decode cX12_plays 509 = .ok (.invokevirtual 218, 3) := by decide +kernel
theorem dX12_plays_512 : decode cX12_plays 512 = .ok (.iinc 11 1, 3) := by decide +kernel
theorem dX12_plays_515 : decode cX12_plays 515 = .ok (.goto (-86), 3) := by decide +kernel
theorem dX12_plays_518 : decode cX12_plays 518 = .ok (.return_, 1) := by decide +kernel
set_option maxHeartbeats 4000000 in
set_option maxRecDepth 100000 in
theorem c_X12_lays (l : Launch) (D : va_G) (g : Nat → ClassId) (sz : Nat) (mm : Nat) (p0 : Int32) (a0 : Int64) (b0 : Int64) (i_thrown : Int32) (m_s : Nat) (m_spare : Nat) (m_kept : Nat) (m_undone : Nat) (m_triedWay : Nat) (m_isKept : Nat) (i_undoMany : Int32) (m_tape : Nat) (i_length : Int32) (i_size : Int32) (i_p : Int32) (i_at : Int32) (i_token : Int32) (i_number : Int32) (i_letterMany : Int32) (i_fault : Int32) (i_faultAt : Int32) (m_letters : Nat) (i_isKnown : Int32) (m_choice : Nat) (m_row : Nat) (m_up : Nat) (m_low : Nat) (m_m : Nat) (m_bestUp : Nat) (m_bestLow : Nat) (m_replyUp : Nat) (m_replyLow : Nat) (m_worthUp : Nat) (m_worthLow : Nat) (m_bestWay : Nat) (i_seed : Int32) (m_told : Nat) (i_toldMany : Int32) (uf : Nat → Int64) (lof : Nat → Int64) (h_p0 : 0 ≤ (p0 : Int32).toInt ∧ (p0 : Int32).toInt ≤ 11) (h_i_undoMany : 0 ≤ (i_undoMany : Int32).toInt ∧ (i_undoMany : Int32).toInt ≤ 8) (h_i_length : 0 ≤ (i_length : Int32).toInt ∧ (i_length : Int32).toInt ≤ 440) (h_i_size : 0 ≤ (i_size : Int32).toInt ∧ (i_size : Int32).toInt ≤ 440) (h_i_p : 0 ≤ (i_p : Int32).toInt ∧ (i_p : Int32).toInt ≤ 440) (h_i_at : 0 ≤ (i_at : Int32).toInt ∧ (i_at : Int32).toInt ≤ 440) (h_i_token : 0 ≤ (i_token : Int32).toInt ∧ (i_token : Int32).toInt ≤ 4) (h_i_number : 0 ≤ (i_number : Int32).toInt ∧ (i_number : Int32).toInt ≤ 814) (h_i_letterMany : (-440) ≤ (i_letterMany : Int32).toInt ∧ (i_letterMany : Int32).toInt ≤ 440) (h_i_faultAt : 0 ≤ (i_faultAt : Int32).toInt ∧ (i_faultAt : Int32).toInt ≤ 440) (h_i_isKnown : 0 ≤ (i_isKnown : Int32).toInt ∧ (i_isKnown : Int32).toInt ≤ 1) (h_i_toldMany : 0 ≤ (i_toldMany : Int32).toInt ∧ (i_toldMany : Int32).toInt ≤ 900) (hb0 : 0 < (b0 : Int64).toInt) : Met l yX12_lays (.code yX12_lays cX12_lays 8 none :: wsL_law) ({ frames := 1, cells := 0, slots := 0, locals := 29 }) (va_Pc [.ref mm, .int p0, .long a0, .long b0] (fun U => U.heap.size = sz ∧ va_P D vwCl [(mm, .inr (12, (.int i_thrown :: .ref m_s :: .ref m_spare :: .ref m_kept :: .ref m_undone :: .ref m_triedWay :: .ref m_isKept :: .int i_undoMany :: .ref m_tape :: .int i_length :: .int i_size :: .int i_p :: .int i_at :: .int i_token :: .int i_number :: .int i_letterMany :: .int i_fault :: .int i_faultAt :: .ref m_letters :: .int i_isKnown :: .ref m_choice :: .ref m_row :: .ref m_up :: .ref m_low :: .ref m_m :: .ref m_bestUp :: .ref m_bestLow :: .ref m_replyUp :: .ref m_replyLow :: .ref m_worthUp :: .ref m_worthLow :: .ref m_bestWay :: .int i_seed :: .ref m_told :: .int i_toldMany :: []))), (m_up, .inl (g 1, 12, .inr (.inl uf))), (m_low, .inl (g 1, 12, .inr (.inl lof)))] U.heap ∧ va_K D vwCl (TY g) U ∧ va_D (fun _ => True) [(mm, .inr (12, (.int i_thrown :: .ref m_s :: .ref m_spare :: .ref m_kept :: .ref m_undone :: .ref m_triedWay :: .ref m_isKept :: .int i_undoMany :: .ref m_tape :: .int i_length :: .int i_size :: .int i_p :: .int i_at :: .int i_token :: .int i_number :: .int i_letterMany :: .int i_fault :: .int i_faultAt :: .ref m_letters :: .int i_isKnown :: .ref m_choice :: .ref m_row :: .ref m_up :: .ref m_low :: .ref m_m :: .ref m_bestUp :: .ref m_bestLow :: .ref m_replyUp :: .ref m_replyLow :: .ref m_worthUp :: .ref m_worthLow :: .ref m_bestWay :: .int i_seed :: .ref m_told :: .int i_toldMany :: []))), (m_up, .inl (g 1, 12, .inr (.inl uf))), (m_low, .inl (g 1, 12, .inr (.inl lof)))])) (va_Qv (fun (_ : Unit) => True) (fun _ t => ∃ ouf : Nat → Int64, ∃ olof : Nat → Int64, (LYS uf lof ouf olof (p0 : Int32).toInt.toNat (a0 : Int64).toInt (b0 : Int64).toInt) ∧ va_P D vwCl [(mm, .inr (12, (.int i_thrown :: .ref m_s :: .ref m_spare :: .ref m_kept :: .ref m_undone :: .ref m_triedWay :: .ref m_isKept :: .int i_undoMany :: .ref m_tape :: .int i_length :: .int i_size :: .int i_p :: .int i_at :: .int i_token :: .int i_number :: .int i_letterMany :: .int i_fault :: .int i_faultAt :: .ref m_letters :: .int i_isKnown :: .ref m_choice :: .ref m_row :: .ref m_up :: .ref m_low :: .ref m_m :: .ref m_bestUp :: .ref m_bestLow :: .ref m_replyUp :: .ref m_replyLow :: .ref m_worthUp :: .ref m_worthLow :: .ref m_bestWay :: .int i_seed :: .ref m_told :: .int i_toldMany :: []))), (m_up, .inl (g 1, 12, .inr (.inl ouf))), (m_low, .inl (g 1, 12, .inr (.inl olof)))] t.heap ∧ va_D (va_A [(mm, .inr (12, (.int i_thrown :: .ref m_s :: .ref m_spare :: .ref m_kept :: .ref m_undone :: .ref m_triedWay :: .ref m_isKept :: .int i_undoMany :: .ref m_tape :: .int i_length :: .int i_size :: .int i_p :: .int i_at :: .int i_token :: .int i_number :: .int i_letterMany :: .int i_fault :: .int i_faultAt :: .ref m_letters :: .int i_isKnown :: .ref m_choice :: .ref m_row :: .ref m_up :: .ref m_low :: .ref m_m :: .ref m_bestUp :: .ref m_bestLow :: .ref m_replyUp :: .ref m_replyLow :: .ref m_worthUp :: .ref m_worthLow :: .ref m_bestWay :: .int i_seed :: .ref m_told :: .int i_toldMany :: []))), (m_up, .inl (g 1, 12, .inr (.inl uf))), (m_low, .inl (g 1, 12, .inr (.inl lof)))] sz) [(mm, .inr (12, (.int i_thrown :: .ref m_s :: .ref m_spare :: .ref m_kept :: .ref m_undone :: .ref m_triedWay :: .ref m_isKept :: .int i_undoMany :: .ref m_tape :: .int i_length :: .int i_size :: .int i_p :: .int i_at :: .int i_token :: .int i_number :: .int i_letterMany :: .int i_fault :: .int i_faultAt :: .ref m_letters :: .int i_isKnown :: .ref m_choice :: .ref m_row :: .ref m_up :: .ref m_low :: .ref m_m :: .ref m_bestUp :: .ref m_bestLow :: .ref m_replyUp :: .ref m_replyLow :: .ref m_worthUp :: .ref m_worthLow :: .ref m_bestWay :: .int i_seed :: .ref m_told :: .int i_toldMany :: []))), (m_up, .inl (g 1, 12, .inr (.inl ouf))), (m_low, .inl (g 1, 12, .inr (.inl olof)))]) (va_A [(mm, .inr (12, (.int i_thrown :: .ref m_s :: .ref m_spare :: .ref m_kept :: .ref m_undone :: .ref m_triedWay :: .ref m_isKept :: .int i_undoMany :: .ref m_tape :: .int i_length :: .int i_size :: .int i_p :: .int i_at :: .int i_token :: .int i_number :: .int i_letterMany :: .int i_fault :: .int i_faultAt :: .ref m_letters :: .int i_isKnown :: .ref m_choice :: .ref m_row :: .ref m_up :: .ref m_low :: .ref m_m :: .ref m_bestUp :: .ref m_bestLow :: .ref m_replyUp :: .ref m_replyLow :: .ref m_worthUp :: .ref m_worthLow :: .ref m_bestWay :: .int i_seed :: .ref m_told :: .int i_toldMany :: []))), (m_up, .inl (g 1, 12, .inr (.inl uf))), (m_low, .inl (g 1, 12, .inr (.inl lof)))] sz)) 0 0 (va_A [(mm, .inr (12, (.int i_thrown :: .ref m_s :: .ref m_spare :: .ref m_kept :: .ref m_undone :: .ref m_triedWay :: .ref m_isKept :: .int i_undoMany :: .ref m_tape :: .int i_length :: .int i_size :: .int i_p :: .int i_at :: .int i_token :: .int i_number :: .int i_letterMany :: .int i_fault :: .int i_faultAt :: .ref m_letters :: .int i_isKnown :: .ref m_choice :: .ref m_row :: .ref m_up :: .ref m_low :: .ref m_m :: .ref m_bestUp :: .ref m_bestLow :: .ref m_replyUp :: .ref m_replyLow :: .ref m_worthUp :: .ref m_worthLow :: .ref m_bestWay :: .int i_seed :: .ref m_told :: .int i_toldMany :: []))), (m_up, .inl (g 1, 12, .inr (.inl uf))), (m_low, .inl (g 1, 12, .inr (.inl lof)))] sz) := by
  refine Met.ofW (cc := cX12_lays) (maxL := 8) (ret := none) (by decide) rfl ?_
  intro p e s m args below meth c s₁ B hml hv
  obtain ⟨ha, hsz, hP, hK, hD0⟩ := hv
  have hx := B.exec
  have hb := B.bytes
  have hr := B.returns
  have hts0 := atoms_spec (ws := (.code yX12_lays cX12_lays 8 none :: wsL_law)) B.pre
  have hts : ∀ w ∈ wsL_law, w.before args s = true := fun w h => hts0 w (List.mem_cons_of_mem _ h)
  have hown : s.vm.findClass RX12 = some m.cls := findClass_of_methodNamed B.named
  have hlocks := B.notSynchronized
  subst hsz
  have hD := hD0.self (sz := s.heap.size)
  generalize hAe : va_A [(mm, .inr (12, (.int i_thrown :: .ref m_s :: .ref m_spare :: .ref m_kept :: .ref m_undone :: .ref m_triedWay :: .ref m_isKept :: .int i_undoMany :: .ref m_tape :: .int i_length :: .int i_size :: .int i_p :: .int i_at :: .int i_token :: .int i_number :: .int i_letterMany :: .int i_fault :: .int i_faultAt :: .ref m_letters :: .int i_isKnown :: .ref m_choice :: .ref m_row :: .ref m_up :: .ref m_low :: .ref m_m :: .ref m_bestUp :: .ref m_bestLow :: .ref m_replyUp :: .ref m_replyLow :: .ref m_worthUp :: .ref m_worthLow :: .ref m_bestWay :: .int i_seed :: .ref m_told :: .int i_toldMany :: []))), (m_up, .inl (g 1, 12, .inr (.inl uf))), (m_low, .inl (g 1, 12, .inr (.inl lof)))] s.heap.size = A at hD ⊢
  have hA : ∀ q : Nat, s.heap.size ≤ q → A q := fun q h => by rw [← hAe]; exact Or.inr h
  have hS : va_S A s.heap s.heap [] := va_S.rf
  have hP : va_P D vwCl [(mm, .inr (12, (.int i_thrown :: .ref m_s :: .ref m_spare :: .ref m_kept :: .ref m_undone :: .ref m_triedWay :: .ref m_isKept :: .int i_undoMany :: .ref m_tape :: .int i_length :: .int i_size :: .int i_p :: .int i_at :: .int i_token :: .int i_number :: .int i_letterMany :: .int i_fault :: .int i_faultAt :: .ref m_letters :: .int i_isKnown :: .ref m_choice :: .ref m_row :: .ref m_up :: .ref m_low :: .ref m_m :: .ref m_bestUp :: .ref m_bestLow :: .ref m_replyUp :: .ref m_replyLow :: .ref m_worthUp :: .ref m_worthLow :: .ref m_bestWay :: .int i_seed :: .ref m_told :: .int i_toldMany :: []))), (m_up, .inl (g 1, 12, .inr (.inl uf))), (m_low, .inl (g 1, 12, .inr (.inl lof)))] s.heap := hP
  refine W.eq (g2 := entryFrame m ([.ref mm, .int p0, .long a0, .long b0] : List Value).toArray 8) (by rw [ha]) ?_
  have hl := lv_entry ([.ref mm, .int p0, .long a0, .long b0]) (n := 8) (Nat.le_of_ble_eq_true rfl)
  rw [lg_entry_eq]
  generalize (lg_sl ([.ref mm, .int p0, .long a0, .long b0]) ++ List.replicate (8 - (lg_sl ([.ref mm, .int p0, .long a0, .long b0])).length) Slot.unset).toArray = ls at hl ⊢
  have hl : lv_has ls 8 [(0, .ref mm), (1, .int p0), (2, .long a0), (4, .long b0)] := hl
  refine lv_lload_n hx hb dX12_lays_0 rfl (lv_at hl 2 rfl) ?_
  refine lv_lload hx hb dX12_lays_1 (lv_at hl 3 rfl) ?_
  have hPc := hP.sub (ws' := []) [] rfl
  refine vp_callSl (va_Run.run (va_runS (As := [.long a0, .long b0]) (rest := []) ⟨hx, hb, hml, hown, hts⟩ (c_X12_divisor l D g a0 b0 hb0) (va_cwS 2 hts (tz_gS qw_131 qw_132 qw_3 qw_133) rfl rfl rfl (by decide +kernel) ⟨Nat.le_of_ble_eq_true rfl, Nat.le_of_ble_eq_true rfl⟩) ⟨tz_blS, tz_preS hPc hK⟩ rfl rfl hl.1 rfl (lv_room (Nat.le_of_ble_eq_true rfl)) dX12_lays_3 ⟨Nat.le_of_ble_eq_true rfl, Nat.le_of_ble_eq_true rfl⟩)) (fun r_8741 hw => ?_)
  have hw_8742_p0 : ¬ (r_8741 : Int64).toInt = 0 ∧ (r_8741 : Int64).toInt ∣ (a0 : Int64).toInt ∧ (r_8741 : Int64).toInt ∣ (b0 : Int64).toInt ∧ (0 ≤ (a0 : Int64).toInt → 0 < (r_8741 : Int64).toInt) := hw.2
  refine lv_lstore (lv' := [(6, .long r_8741), (0, .ref mm), (1, .int p0), (2, .long a0), (4, .long b0)]) hx hb dX12_lays_6 hl (by decide) rfl (fun ls hl => ?_)
  refine lv_aload_n hx hb dX12_lays_8 rfl (lv_at hl 1 rfl) ?_
  refine va_get (D := D) (ci := 12) (v := .ref m_up) (C := RX12) (T := TX12) (N := 35) hx hb hts inlX12 hown hK hP 0 rfl rfl 22 (by decide) (hts (Cond.fieldLink RX12 46 "ChanceRingsModel" "up" "[J") qw_134) (fun _ h9 => h9) rfl dX12_lays_9 ?_
  refine lv_iload_n hx hb dX12_lays_12 rfl (lv_at hl 2 rfl) ?_
  refine lv_lload_n hx hb dX12_lays_13 rfl (lv_at hl 3 rfl) ?_
  refine lv_lload hx hb dX12_lays_14 (lv_at hl 0 rfl) ?_
  have nzd_8743 : ¬ r_8741 = 0 := tl_ne0 hw_8742_p0.1
  refine lv_ldiv hx hb dX12_lays_16 nzd_8743 ?_
  refine lv_topl (fun w_8744 w_8744_e => ?_)
  refine va_last hx hb hK hP hD hS 1 1 rfl rfl (tr_in h_p0 (by decide) (by decide)) dX12_lays_17 (fun H locs hP hD hS => ?_)
  obtain ⟨f_8745, f_8745_e, hP, hD⟩ : ∃ FX : Nat → Int64, FX = (fun j9 => if j9 = (p0 : Int32).toNatClampNeg then w_8744 else uf j9) ∧ va_P D vwCl [(mm, .inr (12, (.int i_thrown :: .ref m_s :: .ref m_spare :: .ref m_kept :: .ref m_undone :: .ref m_triedWay :: .ref m_isKept :: .int i_undoMany :: .ref m_tape :: .int i_length :: .int i_size :: .int i_p :: .int i_at :: .int i_token :: .int i_number :: .int i_letterMany :: .int i_fault :: .int i_faultAt :: .ref m_letters :: .int i_isKnown :: .ref m_choice :: .ref m_row :: .ref m_up :: .ref m_low :: .ref m_m :: .ref m_bestUp :: .ref m_bestLow :: .ref m_replyUp :: .ref m_replyLow :: .ref m_worthUp :: .ref m_worthLow :: .ref m_bestWay :: .int i_seed :: .ref m_told :: .int i_toldMany :: []))), (m_up, .inl (g 1, 12, .inr (.inl FX))), (m_low, .inl (g 1, 12, .inr (.inl lof)))] H ∧ va_D A [(mm, .inr (12, (.int i_thrown :: .ref m_s :: .ref m_spare :: .ref m_kept :: .ref m_undone :: .ref m_triedWay :: .ref m_isKept :: .int i_undoMany :: .ref m_tape :: .int i_length :: .int i_size :: .int i_p :: .int i_at :: .int i_token :: .int i_number :: .int i_letterMany :: .int i_fault :: .int i_faultAt :: .ref m_letters :: .int i_isKnown :: .ref m_choice :: .ref m_row :: .ref m_up :: .ref m_low :: .ref m_m :: .ref m_bestUp :: .ref m_bestLow :: .ref m_replyUp :: .ref m_replyLow :: .ref m_worthUp :: .ref m_worthLow :: .ref m_bestWay :: .int i_seed :: .ref m_told :: .int i_toldMany :: []))), (m_up, .inl (g 1, 12, .inr (.inl FX))), (m_low, .inl (g 1, 12, .inr (.inl lof)))] := ⟨_, rfl, hP, hD⟩
  have hP : va_P D vwCl [(mm, .inr (12, (.int i_thrown :: .ref m_s :: .ref m_spare :: .ref m_kept :: .ref m_undone :: .ref m_triedWay :: .ref m_isKept :: .int i_undoMany :: .ref m_tape :: .int i_length :: .int i_size :: .int i_p :: .int i_at :: .int i_token :: .int i_number :: .int i_letterMany :: .int i_fault :: .int i_faultAt :: .ref m_letters :: .int i_isKnown :: .ref m_choice :: .ref m_row :: .ref m_up :: .ref m_low :: .ref m_m :: .ref m_bestUp :: .ref m_bestLow :: .ref m_replyUp :: .ref m_replyLow :: .ref m_worthUp :: .ref m_worthLow :: .ref m_bestWay :: .int i_seed :: .ref m_told :: .int i_toldMany :: []))), (m_up, .inl (g 1, 12, .inr (.inl f_8745))), (m_low, .inl (g 1, 12, .inr (.inl lof)))] H := hP
  have hD : va_D A [(mm, .inr (12, (.int i_thrown :: .ref m_s :: .ref m_spare :: .ref m_kept :: .ref m_undone :: .ref m_triedWay :: .ref m_isKept :: .int i_undoMany :: .ref m_tape :: .int i_length :: .int i_size :: .int i_p :: .int i_at :: .int i_token :: .int i_number :: .int i_letterMany :: .int i_fault :: .int i_faultAt :: .ref m_letters :: .int i_isKnown :: .ref m_choice :: .ref m_row :: .ref m_up :: .ref m_low :: .ref m_m :: .ref m_bestUp :: .ref m_bestLow :: .ref m_replyUp :: .ref m_replyLow :: .ref m_worthUp :: .ref m_worthLow :: .ref m_bestWay :: .int i_seed :: .ref m_told :: .int i_toldMany :: []))), (m_up, .inl (g 1, 12, .inr (.inl f_8745))), (m_low, .inl (g 1, 12, .inr (.inl lof)))] := hD
  refine lv_aload_n hx hb dX12_lays_18 rfl (lv_at hl 1 rfl) ?_
  refine va_get (D := D) (ci := 12) (v := .ref m_low) (C := RX12) (T := TX12) (N := 35) hx hb hts inlX12 hown hK hP 0 rfl rfl 23 (by decide) (hts (Cond.fieldLink RX12 50 "ChanceRingsModel" "low" "[J") qw_135) (fun _ h9 => h9) rfl dX12_lays_19 ?_
  refine lv_iload_n hx hb dX12_lays_22 rfl (lv_at hl 2 rfl) ?_
  refine lv_lload hx hb dX12_lays_23 (lv_at hl 4 rfl) ?_
  refine lv_lload hx hb dX12_lays_25 (lv_at hl 0 rfl) ?_
  refine lv_ldiv hx hb dX12_lays_27 nzd_8743 ?_
  refine lv_topl (fun w_8746 w_8746_e => ?_)
  refine va_last hx hb hK hP hD hS 2 1 rfl rfl (tr_in h_p0 (by decide) (by decide)) dX12_lays_28 (fun H locs hP hD hS => ?_)
  obtain ⟨f_8747, f_8747_e, hP, hD⟩ : ∃ FX : Nat → Int64, FX = (fun j9 => if j9 = (p0 : Int32).toNatClampNeg then w_8746 else lof j9) ∧ va_P D vwCl [(mm, .inr (12, (.int i_thrown :: .ref m_s :: .ref m_spare :: .ref m_kept :: .ref m_undone :: .ref m_triedWay :: .ref m_isKept :: .int i_undoMany :: .ref m_tape :: .int i_length :: .int i_size :: .int i_p :: .int i_at :: .int i_token :: .int i_number :: .int i_letterMany :: .int i_fault :: .int i_faultAt :: .ref m_letters :: .int i_isKnown :: .ref m_choice :: .ref m_row :: .ref m_up :: .ref m_low :: .ref m_m :: .ref m_bestUp :: .ref m_bestLow :: .ref m_replyUp :: .ref m_replyLow :: .ref m_worthUp :: .ref m_worthLow :: .ref m_bestWay :: .int i_seed :: .ref m_told :: .int i_toldMany :: []))), (m_up, .inl (g 1, 12, .inr (.inl f_8745))), (m_low, .inl (g 1, 12, .inr (.inl FX)))] H ∧ va_D A [(mm, .inr (12, (.int i_thrown :: .ref m_s :: .ref m_spare :: .ref m_kept :: .ref m_undone :: .ref m_triedWay :: .ref m_isKept :: .int i_undoMany :: .ref m_tape :: .int i_length :: .int i_size :: .int i_p :: .int i_at :: .int i_token :: .int i_number :: .int i_letterMany :: .int i_fault :: .int i_faultAt :: .ref m_letters :: .int i_isKnown :: .ref m_choice :: .ref m_row :: .ref m_up :: .ref m_low :: .ref m_m :: .ref m_bestUp :: .ref m_bestLow :: .ref m_replyUp :: .ref m_replyLow :: .ref m_worthUp :: .ref m_worthLow :: .ref m_bestWay :: .int i_seed :: .ref m_told :: .int i_toldMany :: []))), (m_up, .inl (g 1, 12, .inr (.inl f_8745))), (m_low, .inl (g 1, 12, .inr (.inl FX)))] := ⟨_, rfl, hP, hD⟩
  have hP : va_P D vwCl [(mm, .inr (12, (.int i_thrown :: .ref m_s :: .ref m_spare :: .ref m_kept :: .ref m_undone :: .ref m_triedWay :: .ref m_isKept :: .int i_undoMany :: .ref m_tape :: .int i_length :: .int i_size :: .int i_p :: .int i_at :: .int i_token :: .int i_number :: .int i_letterMany :: .int i_fault :: .int i_faultAt :: .ref m_letters :: .int i_isKnown :: .ref m_choice :: .ref m_row :: .ref m_up :: .ref m_low :: .ref m_m :: .ref m_bestUp :: .ref m_bestLow :: .ref m_replyUp :: .ref m_replyLow :: .ref m_worthUp :: .ref m_worthLow :: .ref m_bestWay :: .int i_seed :: .ref m_told :: .int i_toldMany :: []))), (m_up, .inl (g 1, 12, .inr (.inl f_8745))), (m_low, .inl (g 1, 12, .inr (.inl f_8747)))] H := hP
  have hD : va_D A [(mm, .inr (12, (.int i_thrown :: .ref m_s :: .ref m_spare :: .ref m_kept :: .ref m_undone :: .ref m_triedWay :: .ref m_isKept :: .int i_undoMany :: .ref m_tape :: .int i_length :: .int i_size :: .int i_p :: .int i_at :: .int i_token :: .int i_number :: .int i_letterMany :: .int i_fault :: .int i_faultAt :: .ref m_letters :: .int i_isKnown :: .ref m_choice :: .ref m_row :: .ref m_up :: .ref m_low :: .ref m_m :: .ref m_bestUp :: .ref m_bestLow :: .ref m_replyUp :: .ref m_replyLow :: .ref m_worthUp :: .ref m_worthLow :: .ref m_bestWay :: .int i_seed :: .ref m_told :: .int i_toldMany :: []))), (m_up, .inl (g 1, 12, .inr (.inl f_8745))), (m_low, .inl (g 1, 12, .inr (.inl f_8747)))] := hD
  have hP9 := hP.sub (ws' := [(mm, .inr (12, (.int i_thrown :: .ref m_s :: .ref m_spare :: .ref m_kept :: .ref m_undone :: .ref m_triedWay :: .ref m_isKept :: .int i_undoMany :: .ref m_tape :: .int i_length :: .int i_size :: .int i_p :: .int i_at :: .int i_token :: .int i_number :: .int i_letterMany :: .int i_fault :: .int i_faultAt :: .ref m_letters :: .int i_isKnown :: .ref m_choice :: .ref m_row :: .ref m_up :: .ref m_low :: .ref m_m :: .ref m_bestUp :: .ref m_bestLow :: .ref m_replyUp :: .ref m_replyLow :: .ref m_worthUp :: .ref m_worthLow :: .ref m_bestWay :: .int i_seed :: .ref m_told :: .int i_toldMany :: []))), (m_up, .inl (g 1, 12, .inr (.inl f_8745))), (m_low, .inl (g 1, 12, .inr (.inl f_8747)))]) [0, 1, 2] rfl
  have hD9 := hD.sub (ws' := [(mm, .inr (12, (.int i_thrown :: .ref m_s :: .ref m_spare :: .ref m_kept :: .ref m_undone :: .ref m_triedWay :: .ref m_isKept :: .int i_undoMany :: .ref m_tape :: .int i_length :: .int i_size :: .int i_p :: .int i_at :: .int i_token :: .int i_number :: .int i_letterMany :: .int i_fault :: .int i_faultAt :: .ref m_letters :: .int i_isKnown :: .ref m_choice :: .ref m_row :: .ref m_up :: .ref m_low :: .ref m_m :: .ref m_bestUp :: .ref m_bestLow :: .ref m_replyUp :: .ref m_replyLow :: .ref m_worthUp :: .ref m_worthLow :: .ref m_bestWay :: .int i_seed :: .ref m_told :: .int i_toldMany :: []))), (m_up, .inl (g 1, 12, .inr (.inl f_8745))), (m_low, .inl (g 1, 12, .inr (.inl f_8747)))]) [0, 1, 2] (by decide) rfl
  exact W.vret hx hb hr (fun t ht hW => ⟨⟨(), rfl, trivial, f_8745, f_8747, (LYS_of hw_8742_p0 w_8744_e w_8746_e f_8745_e f_8747_e hb0), by rw [ht]; exact hP9, hD9⟩, hS.F ht⟩) hS.2.2 dX12_lays_29
