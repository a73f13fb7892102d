/-! Elimination in whole numbers: what stands in the rows at each step, as whole numbers, and how large it is. Pure. -/
section EL
/-- the rows, as fractions -/
def eA (A : Nat → Nat → Int) : Nat → Nat → Rat := fun i j => (A i j : Rat)
/-- what stands in the rows before step c -/
def eX (A : Nat → Nat → Int) (c i j : Nat) : Int := (pd_d c (eA A) * pd_G c (eA A) i j).num
/-- what the step c divides by -/
def eb (A : Nat → Nat → Int) (c : Nat) : Int := (pd_d c (eA A)).num
/-- the diagonal's product -/
def eP (A : Nat → Nat → Int) : Nat → Int
  | 0 => 1
  | k + 1 => eP A k * A k k
/-- rows that elimination goes through -/
def EH (n : Nat) (A : Nat → Nat → Int) : Prop := (∀ i j, i < n → j < n → i ≠ j → A i j ≤ 0) ∧ (∃ x : Nat → Rat, (∀ j, j < n → 0 < x j) ∧ ∀ i, i < n → 0 < pm_s n (eA A) x i) ∧ (∀ i, i < n → 0 ≤ pm_s n (eA A) (fun _ => 1) i) ∧ eP A n ≤ 400000000
variable {n : Nat} {A : Nat → Nat → Int}
theorem EH.o (h : EH n A) : ∀ i j, i < n → j < n → i ≠ j → A i j ≤ 0 := h.1
theorem EH.x (h : EH n A) : ∃ x : Nat → Rat, (∀ j, j < n → 0 < x j) ∧ ∀ i, i < n → 0 < pm_s n (eA A) x i := h.2.1
theorem EH.r (h : EH n A) : ∀ i, i < n → 0 ≤ pm_s n (eA A) (fun _ => 1) i := h.2.2.1
theorem EH.d (h : EH n A) : eP A n ≤ 400000000 := h.2.2.2
theorem pd_Z_num {x : Rat} (h : pd_Z x) : (x.num : Rat) = x := by
  obtain ⟨z, rfl⟩ := h
  rfl
theorem EH.pO (h : EH n A) : pm_O n (eA A) := fun i j hi hj e => by
  have := h.o i j hi hj e
  show (A i j : Rat) ≤ 0
  exact_mod_cast this
theorem EH.piv (h : EH n A) : ∀ k, k < n → 0 < pd_G k (eA A) k k := by
  obtain ⟨x, h1, h2⟩ := h.x
  intro k hk
  exact (pm_keep h.pO h1 h2 n (Nat.le_refl n)).2.2 k hk
theorem EH.whole (h : EH n A) {c : Nat} (hc : c ≤ n) : pd_Z (pd_d c (eA A)) ∧ ∀ i j, pd_Z (pd_d c (eA A) * pd_G c (eA A) i j) := pd_whole (eA A) (fun a b => ⟨A a b, rfl⟩) c (fun k hk => Rat.ne_of_gt (h.piv k (by omega)))
theorem EH.castX (h : EH n A) {c : Nat} (hc : c ≤ n) (i j : Nat) : ((eX A c i j : Int) : Rat) = pd_d c (eA A) * pd_G c (eA A) i j := pd_Z_num ((h.whole hc).2 i j)
theorem EH.castb (h : EH n A) {c : Nat} (hc : c ≤ n) : ((eb A c : Int) : Rat) = pd_d c (eA A) := pd_Z_num (h.whole hc).1
theorem pd_d_pos {B : Nat → Nat → Rat} : ∀ c, (∀ k, k < c → 0 < pd_G k B k k) → 0 < pd_d c B
  | 0, _ => by show (0 : Rat) < 1; decide
  | c + 1, h => by
    show 0 < pd_d c B * pd_G c B c c
    exact Rat.mul_pos (pd_d_pos c (fun k hk => h k (by omega))) (h c (by omega))
theorem EH.dpos (h : EH n A) {c : Nat} (hc : c ≤ n) : 0 < pd_d c (eA A) := pd_d_pos c (fun k hk => h.piv k (by omega))
theorem EH.bpos (h : EH n A) {c : Nat} (hc : c ≤ n) : 0 < eb A c := by
  have := h.dpos hc
  rw [← h.castb hc] at this
  exact_mod_cast this
theorem e_b0 (A : Nat → Nat → Int) : eb A 0 = 1 := rfl
theorem e_X0 (A : Nat → Nat → Int) (i j : Nat) : eX A 0 i j = A i j := by
  show ((1 : Rat) * (A i j : Rat)).num = A i j
  rw [Rat.one_mul]
  rfl
theorem e_bS (A : Nat → Nat → Int) (c : Nat) : eb A (c + 1) = eX A c c c := rfl
theorem EH.ppos (h : EH n A) {c : Nat} (hc : c < n) : 0 < eX A c c c := by rw [← e_bS]; exact h.bpos (by omega)
theorem EH.row (h : EH n A) {c : Nat} (hc : c < n) (j : Nat) : eX A (c + 1) c j = eX A c c j := by
  have hp := Rat.ne_of_gt (h.piv c hc)
  have e : ((eX A (c + 1) c j : Int) : Rat) = ((eX A c c j : Int) : Rat) := by
    rw [h.castX (by omega), h.castX (by omega), pd_G_at]
    show pd_d c (eA A) * pd_G c (eA A) c c * (pd_G c (eA A) c j / pd_G c (eA A) c c) = _
    rw [Rat.div_def]
    have := Rat.mul_inv_cancel _ hp
    grind
  exact_mod_cast e
theorem EH.step (h : EH n A) {c : Nat} (hc : c < n) {i : Nat} (hi : i ≠ c) (j : Nat) : eX A (c + 1) i j * eb A c = eX A c i j * eX A c c c - eX A c i c * eX A c c j := by
  have hp := Rat.ne_of_gt (h.piv c hc)
  have e : ((eX A (c + 1) i j * eb A c : Int) : Rat) = ((eX A c i j * eX A c c c - eX A c i c * eX A c c j : Int) : Rat) := by
    rw [Rat.intCast_sub, Rat.intCast_mul, Rat.intCast_mul, Rat.intCast_mul, h.castX (by omega), h.castX (by omega), h.castX (by omega), h.castX (by omega), h.castX (by omega), h.castb (by omega), pd_G_ne c _ j hi]
    show pd_d c (eA A) * pd_G c (eA A) c c * (pd_G c (eA A) i j - pd_G c (eA A) i c * pd_G c (eA A) c j / pd_G c (eA A) c c) * pd_d c (eA A) = _
    rw [Rat.div_def]
    have := Rat.mul_inv_cancel _ hp
    grind
  exact_mod_cast e
theorem EH.unit (h : EH n A) {c : Nat} (hc : c ≤ n) (i j : Nat) (hj : j < c) : eX A c i j = if i = j then eb A c else 0 := by
  have e : ((eX A c i j : Int) : Rat) = ((if i = j then eb A c else 0 : Int) : Rat) := by
    rw [h.castX hc, pd_unit (eA A) c (fun k hk => Rat.ne_of_gt (h.piv k (by omega))) i j hj]
    by_cases q : i = j
    · rw [if_pos q, if_pos q, h.castb hc, Rat.mul_one]
    · rw [if_neg q, if_neg q, Rat.mul_zero]; rfl
  exact_mod_cast e
theorem EH.adiag (h : EH n A) {i : Nat} (hi : i < n) : 1 ≤ A i i := by
  obtain ⟨x, h1, h2⟩ := h.x
  have h3 := h2 i hi
  unfold pm_s at h3
  have h4 := pz_m_pos (c := i) hi (fun k hk q => by
    have := Rat.mul_nonneg (a := -eA A i k) (b := x k) (by have := h.pO i k hi hk (fun e => q e.symm); grind) (Rat.le_of_lt (h1 k hk))
    grind) h3
  have h5 : 0 < eA A i i := by
    by_cases q : 0 < eA A i i
    · exact q
    · have := Rat.mul_nonneg (a := -eA A i i) (b := x i) (by grind) (Rat.le_of_lt (h1 i hi))
      grind
  have h6 : (0 : Rat) < ((A i i : Int) : Rat) := h5
  have h7 : 0 < A i i := by exact_mod_cast h6
  omega
theorem eP_pos (h : ∀ i, i < n → 1 ≤ A i i) : ∀ c, c ≤ n → 1 ≤ eP A c
  | 0, _ => by show (1 : Int) ≤ 1; omega
  | c + 1, hc => by
    have h1 := eP_pos h c (by omega)
    have h2 := h c (by omega)
    show 1 ≤ eP A c * A c c
    have := Int.mul_le_mul h1 h2 (by omega) (by omega)
    omega
theorem eP_le (h : ∀ i, i < n → 1 ≤ A i i) {c : Nat} : ∀ m, c ≤ m → m ≤ n → eP A c ≤ eP A m
  | 0, h1, _ => by rw [show c = 0 by omega]; exact Int.le_refl _
  | m + 1, h1, h2 => by
    by_cases e : c = m + 1
    · rw [e]; exact Int.le_refl _
    · have a1 := eP_le h (c := c) m (by omega) (by omega)
      have a2 := h m (by omega)
      have a3 := eP_pos h m (by omega)
      show _ ≤ eP A m * A m m
      have : eP A m * 1 ≤ eP A m * A m m := Int.mul_le_mul_of_nonneg_left a2 (by omega)
      omega
theorem eP_with (h : ∀ i, i < n → 1 ≤ A i i) {c i : Nat} (hci : c ≤ i) : ∀ m, i < m → m ≤ n → eP A c * A i i ≤ eP A m
  | 0, h1, _ => absurd h1 (by omega)
  | m + 1, h1, h2 => by
    show _ ≤ eP A m * A m m
    by_cases e : i = m
    · subst e
      exact Int.mul_le_mul_of_nonneg_right (eP_le h i hci (by omega)) (by have := h i (by omega); omega)
    · have a1 := eP_with h hci m (by omega) (by omega)
      have a2 := h m (by omega)
      have a3 := eP_pos h m (by omega)
      have : eP A m * 1 ≤ eP A m * A m m := Int.mul_le_mul_of_nonneg_left a2 (by omega)
      omega
theorem EH.dle (h : EH n A) : ∀ c, c ≤ n → pd_d c (eA A) ≤ ((eP A c : Int) : Rat)
  | 0, _ => Rat.le_refl
  | c + 1, hc => by
    obtain ⟨x, h1, h2⟩ := h.x
    have ih := h.dle c (by omega)
    have a1 := pm_diag h.pO h1 h2 c (by omega) c (by omega) (Nat.le_refl c)
    have a2 := h.piv c (by omega)
    have a3 := h.dpos (c := c) (by omega)
    show pd_d c (eA A) * pd_G c (eA A) c c ≤ ((eP A c * A c c : Int) : Rat)
    rw [Rat.intCast_mul]
    have b1 := Rat.mul_le_mul_of_nonneg_right (c := pd_G c (eA A) c c) ih (Rat.le_of_lt a2)
    have b2 : (0 : Rat) ≤ ((eP A c : Int) : Rat) := by grind
    have b3 := Rat.mul_le_mul_of_nonneg_left (c := ((eP A c : Int) : Rat)) a1 b2
    have b4 : eA A c c = ((A c c : Int) : Rat) := rfl
    grind
/-- a row's own place bounds the row -/
theorem EH.own (h : EH n A) {c : Nat} (hc : c ≤ n) {i : Nat} (hi : i < n) : pd_d c (eA A) * pd_G c (eA A) i i ≤ ((eP A n : Int) : Rat) ∧ 0 ≤ pd_G c (eA A) i i := by
  obtain ⟨x, h1, h2⟩ := h.x
  have hd := h.dpos hc
  have hl := h.dle c hc
  have had : ∀ i, i < n → 1 ≤ A i i := fun i hi => h.adiag hi
  by_cases q : c ≤ i
  · have a1 := pm_diag h.pO h1 h2 c hc i hi q
    have a2 : 0 ≤ pd_G c (eA A) i i := by
      have b1 := (pm_keep h.pO h1 h2 c hc).2.1 i hi
      unfold pm_s at b1
      have b2 := pz_m_pos (c := i) hi (fun k hk q => by
        have := Rat.mul_nonneg (a := -pd_G c (eA A) i k) (b := x k) (by have := (pm_keep h.pO h1 h2 c hc).1 i k hi hk (fun e => q e.symm); grind) (Rat.le_of_lt (h1 k hk))
        grind) b1
      by_cases z : 0 ≤ pd_G c (eA A) i i
      · exact z
      · have := Rat.mul_nonneg (a := -pd_G c (eA A) i i) (b := x i) (by grind) (Rat.le_of_lt (h1 i hi))
        grind
    have a3 := eP_with had q n hi (Nat.le_refl n)
    have a4 : ((eP A c : Int) : Rat) * ((A i i : Int) : Rat) ≤ ((eP A n : Int) : Rat) := by rw [← Rat.intCast_mul]; exact_mod_cast a3
    have b1 := Rat.mul_le_mul_of_nonneg_right (c := pd_G c (eA A) i i) hl a2
    have b2 : (0 : Rat) ≤ ((eP A c : Int) : Rat) := by grind
    have b3 := Rat.mul_le_mul_of_nonneg_left (c := ((eP A c : Int) : Rat)) a1 b2
    have b4 : eA A i i = ((A i i : Int) : Rat) := rfl
    exact ⟨by grind, a2⟩
  · have a1 := pd_unit (eA A) c (fun k hk => Rat.ne_of_gt (h.piv k (by omega))) i i (by omega)
    rw [if_pos rfl] at a1
    rw [a1, Rat.mul_one]
    have a3 := eP_le had n hc (Nat.le_refl n)
    have a4 : ((eP A c : Int) : Rat) ≤ ((eP A n : Int) : Rat) := by exact_mod_cast a3
    exact ⟨by grind, by decide⟩
theorem EH.rows (h : EH n A) : ∀ c, c ≤ n → ∀ i, i < n → 0 ≤ pm_s n (pd_G c (eA A)) (fun _ => 1) i
  | 0, _, i, hi => h.r i hi
  | c + 1, hc, i, hi => by
    obtain ⟨x, h1, h2⟩ := h.x
    have iY := h.rows c (by omega)
    have iO := (pm_keep h.pO h1 h2 c (by omega)).1
    have hp := h.piv c (by omega)
    by_cases e : i = c
    · subst e
      rw [pm_s_at]
      exact pm_div_nonneg (iY i hi) hp
    · rw [pm_s_ne (eA A) _ e]
      have h1 := pm_div_nonpos (iO i c hi (by omega) e) hp
      have h3 := iY i hi
      have := Rat.mul_nonneg (a := -(pd_G c (eA A) i c / pd_G c (eA A) c c)) (b := pm_s n (pd_G c (eA A)) (fun _ => 1) c) (by grind) (iY c (by omega))
      grind
theorem EH.blt (h : EH n A) {c : Nat} (hc : c ≤ n) : eb A c ≤ 400000000 := by
  have hl := h.dle c hc
  rw [← h.castb hc] at hl
  have a1 : eb A c ≤ eP A c := by exact_mod_cast hl
  have a3 := eP_le (fun i hi => h.adiag hi) n hc (Nat.le_refl n)
  have := h.d
  omega
theorem EH.bnd (h : EH n A) {c : Nat} (hc : c ≤ n) {i j : Nat} (hi : i < n) (hj : j < n) : -400000000 ≤ eX A c i j ∧ eX A c i j ≤ 400000000 := by
  obtain ⟨x, h1, h2⟩ := h.x
  have hd := h.dpos hc
  obtain ⟨w1, w2⟩ := h.own hc hi
  have e : -((eP A n : Int) : Rat) ≤ ((eX A c i j : Int) : Rat) ∧ ((eX A c i j : Int) : Rat) ≤ ((eP A n : Int) : Rat) := by
    rw [h.castX hc]
    by_cases q : j = i
    · subst q
      have := Rat.mul_nonneg (Rat.le_of_lt hd) w2
      exact ⟨by grind, w1⟩
    · have iO := (pm_keep h.pO h1 h2 c hc).1
      have z1 := iO i j hi hj (fun e => q e.symm)
      have kk := h.rows c hc i hi
      unfold pm_s at kk
      have k2 := pz_m_own2 n i j hi hj q (u := fun j => pd_G c (eA A) i j * 1) (fun k hk z => by
        have := iO i k hi hk (fun e => z e.symm)
        grind)
      have z2 : -pd_G c (eA A) i i ≤ pd_G c (eA A) i j := by grind
      have b1 := Rat.mul_le_mul_of_nonneg_left (c := pd_d c (eA A)) z2 (Rat.le_of_lt hd)
      have b2 := Rat.mul_le_mul_of_nonneg_left (c := pd_d c (eA A)) z1 (Rat.le_of_lt hd)
      exact ⟨by grind, by grind⟩
  have e1 : -eP A n ≤ eX A c i j := by exact_mod_cast e.1
  have e2 : eX A c i j ≤ eP A n := by exact_mod_cast e.2
  have := h.d
  omega
/-- the last column, where the rows' sums bound it -/
theorem EH.last (h : EH n A) (hK : ∀ i, i < n → eA A i n ≤ 9 * pm_s n (eA A) (fun _ => 1) i ∧ -(9 * pm_s n (eA A) (fun _ => 1) i) ≤ eA A i n) {c : Nat} (hc : c ≤ n) {i : Nat} (hi : i < n) : -3600000000 ≤ eX A c i n ∧ eX A c i n ≤ 3600000000 := by
  obtain ⟨x, h1, h2⟩ := h.x
  have hd := h.dpos hc
  obtain ⟨w1, w2⟩ := h.own hc hi
  have e : -(9 * ((eP A n : Int) : Rat)) ≤ ((eX A c i n : Int) : Rat) ∧ ((eX A c i n : Int) : Rat) ≤ 9 * ((eP A n : Int) : Rat) := by
    rw [h.castX hc]
    obtain ⟨k1, k2⟩ := (pm_bound h.pO h1 h2 h.r hK c hc).2 i hi
    have iO := (pm_keep h.pO h1 h2 c hc).1
    have k3 : pm_s n (pd_G c (eA A)) (fun _ => 1) i ≤ pd_G c (eA A) i i := by
      unfold pm_s
      have := pz_m_own n i hi (u := fun j => pd_G c (eA A) i j * 1) (fun k hk z => by
        have := iO i k hi hk (fun e => z e.symm)
        grind)
      grind
    have b1 := Rat.mul_le_mul_of_nonneg_left (c := pd_d c (eA A)) k1 (Rat.le_of_lt hd)
    have b2 := Rat.mul_le_mul_of_nonneg_left (c := pd_d c (eA A)) k2 (Rat.le_of_lt hd)
    have b3 := Rat.mul_le_mul_of_nonneg_left (c := pd_d c (eA A)) k3 (Rat.le_of_lt hd)
    exact ⟨by grind, by grind⟩
  have e1 : -(9 * eP A n) ≤ eX A c i n := by exact_mod_cast e.1
  have e2 : eX A c i n ≤ 9 * eP A n := by exact_mod_cast e.2
  have := h.d
  omega
/-- the last column solves the rows -/
theorem EH.solved (h : EH n A) : ∀ i, i < n → pm_s n (eA A) (fun j => ((eX A n j n : Int) : Rat)) i = ((eb A n : Int) : Rat) * eA A i n := by
  intro i hi
  have h1 := pm_solve (n := n) (A := eA A) (fun k hk => Rat.ne_of_gt (h.piv k hk)) i hi
  rw [← h1, h.castb (Nat.le_refl n)]
  unfold pm_s
  rw [pz_m_congr n (v := fun j => pd_d n (eA A) * (eA A i j * pd_G n (eA A) j n) + 0) (fun j _ => by show eA A i j * ((eX A n j n : Int) : Rat) = _; rw [h.castX (Nat.le_refl n)]; grind), pz_m_lin, pz_m_zero (fun _ _ => rfl)]
  grind
end EL
