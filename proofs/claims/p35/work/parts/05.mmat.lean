/-! Matrices of plays: nothing above 0 beside the diagonal, some vector above 0 that is sent above 0. Elimination keeps that; pivots are above 0; what stands is bounded; the numbers behind solve the rows. -/
theorem pz_m_pos {u : Nat → Rat} {n c : Nat} (hc : c < n) (h : ∀ k, k < n → k ≠ c → u k ≤ 0) (hs : 0 < pz_m n u) : 0 < u c := by
  by_cases q : 0 < u c
  · exact q
  · exfalso
    have : pz_m n u ≤ pz_m n (fun _ => 0) := pz_m_le n (fun k hk => by
      by_cases e : k = c
      · subst e; grind
      · exact h k hk e)
    rw [pz_m_zero (fun _ _ => rfl)] at this
    grind
/-- a sum whose other terms are not above 0 is at most its own term -/
theorem pz_m_own {u : Nat → Rat} : ∀ (n c : Nat), c < n → (∀ k, k < n → k ≠ c → u k ≤ 0) → pz_m n u ≤ u c
  | 0, _, h, _ => absurd h (by omega)
  | n + 1, c, hc, h => by
    simp only [pz_m]
    by_cases e : c = n
    · subst e
      have : pz_m c u ≤ pz_m c (fun _ => 0) := pz_m_le c (fun k hk => h k (by omega) (by omega))
      rw [pz_m_zero (fun _ _ => rfl)] at this
      grind
    · have h1 := pz_m_own n c (by omega) (fun k hk => h k (by omega))
      have h2 := h n (by omega) (fun q => e q.symm)
      grind
/-- .. and at most its own and another term -/
theorem pz_m_own2 {u : Nat → Rat} : ∀ (n c j : Nat), c < n → j < n → j ≠ c → (∀ k, k < n → k ≠ c → u k ≤ 0) → pz_m n u ≤ u c + u j
  | 0, _, _, h, _, _, _ => absurd h (by omega)
  | n + 1, c, j, hc, hj, hne, h => by
    simp only [pz_m]
    by_cases e : c = n
    · subst e
      have h1 := pz_m_le c (u := u) (v := fun k => if k = j then u j else 0) (fun k hk => by
        by_cases q : k = j
        · subst q; rw [if_pos rfl]; exact Rat.le_refl
        · rw [if_neg q]; exact h k (by omega) (by omega))
      have h2 : pz_m c (fun k => if k = j then u j else 0) ≤ u j := by
        have := pz_m_own c j (u := fun k => if k = j then u j else 0) (by omega) (fun k hk q => by rw [if_neg q]; exact Rat.le_refl)
        rw [if_pos rfl] at this
        exact this
      grind
    · by_cases e2 : j = n
      · subst e2
        have := pz_m_own j c (by omega) (fun k hk => h k (by omega))
        grind
      · have h1 := pz_m_own2 n c j (by omega) (by omega) hne (fun k hk => h k (by omega))
        have h2 := h n (by omega) (fun q => e q.symm)
        grind
section PM
variable (n : Nat)
/-- nothing above 0 beside the diagonal -/
def pm_O (A : Nat → Nat → Rat) : Prop := ∀ i j, i < n → j < n → i ≠ j → A i j ≤ 0
/-- the row i times y -/
def pm_s (A : Nat → Nat → Rat) (y : Nat → Rat) (i : Nat) : Rat := pz_m n (fun j => A i j * y j)
variable {n}
theorem pm_s_at (A : Nat → Nat → Rat) (y : Nat → Rat) (c : Nat) : pm_s n (pd_G (c + 1) A) y c = pm_s n (pd_G c A) y c / pd_G c A c c := by
  unfold pm_s
  rw [pz_m_congr n (v := fun j => (pd_G c A c c)⁻¹ * (pd_G c A c j * y j) + 0) (fun j _ => by rw [pd_G_at]; grind), pz_m_lin, pz_m_zero (fun _ _ => rfl)]
  grind
theorem pm_s_ne (A : Nat → Nat → Rat) (y : Nat → Rat) {c i : Nat} (h : i ≠ c) : pm_s n (pd_G (c + 1) A) y i = pm_s n (pd_G c A) y i - pd_G c A i c / pd_G c A c c * pm_s n (pd_G c A) y c := by
  unfold pm_s
  rw [pz_m_congr n (v := fun j => (-(pd_G c A i c / pd_G c A c c)) * (pd_G c A c j * y j) + pd_G c A i j * y j) (fun j _ => by rw [pd_G_ne c A j h]; grind), pz_m_lin]
  grind
theorem pm_mul_nonpos {a b : Rat} (ha : a ≤ 0) (hb : b ≤ 0) : 0 ≤ a * b := by
  have := Rat.mul_nonneg (a := -a) (b := -b) (by grind) (by grind)
  grind
theorem pm_div_nonpos {a b : Rat} (ha : a ≤ 0) (hb : 0 < b) : a / b ≤ 0 := by
  have := Rat.mul_nonneg (a := -a) (b := b⁻¹) (by grind) (Rat.le_of_lt (Rat.inv_pos.mpr hb))
  rw [Rat.div_def]
  grind
theorem pm_div_pos {a b : Rat} (ha : 0 < a) (hb : 0 < b) : 0 < a / b := by
  rw [Rat.div_def]
  exact Rat.mul_pos ha (Rat.inv_pos.mpr hb)
theorem pm_div_nonneg {a b : Rat} (ha : 0 ≤ a) (hb : 0 < b) : 0 ≤ a / b := by
  rw [Rat.div_def]
  exact Rat.mul_nonneg ha (Rat.le_of_lt (Rat.inv_pos.mpr hb))
/-- THE STEPS: what elimination keeps, up to any pivot -/
theorem pm_keep {A : Nat → Nat → Rat} {x : Nat → Rat} (hO : pm_O n A) (hx : ∀ j, j < n → 0 < x j) (hX : ∀ i, i < n → 0 < pm_s n A x i) : ∀ c, c ≤ n → pm_O n (pd_G c A) ∧ (∀ i, i < n → 0 < pm_s n (pd_G c A) x i) ∧ ∀ k, k < c → 0 < pd_G k A k k
  | 0, _ => ⟨hO, hX, fun k hk => absurd hk (by omega)⟩
  | c + 1, hc => by
    obtain ⟨iO, iX, iP⟩ := pm_keep hO hx hX c (by omega)
    have hp : 0 < pd_G c A c c := by
      have h1 := iX c (by omega)
      unfold pm_s at h1
      have h2 := pz_m_pos (c := c) (by omega) (fun k hk q => by
        have := Rat.mul_nonneg (a := -pd_G c A c k) (b := x k) (by have := iO c k (by omega) hk (fun e => q e.symm); grind) (Rat.le_of_lt (hx k hk))
        grind) h1
      have h3 := hx c (by omega)
      by_cases q : 0 < pd_G c A c c
      · exact q
      · have := Rat.mul_nonneg (a := -pd_G c A c c) (b := x c) (by grind) (Rat.le_of_lt h3)
        grind
    refine ⟨fun i j hi hj hne => ?_, fun i hi => ?_, fun k hk => ?_⟩
    · by_cases e : i = c
      · subst e
        rw [pd_G_at]
        exact pm_div_nonpos (iO i j hi hj hne) hp
      · rw [pd_G_ne c A j e]
        by_cases e2 : j = c
        · subst e2
          have := Rat.mul_div_cancel (a := pd_G j A i j) (Rat.ne_of_gt hp)
          grind
        · have h1 := iO i j hi hj hne
          have h2 := pm_div_nonneg (pm_mul_nonpos (iO i c hi (by omega) e) (iO c j (by omega) hj (fun q => e2 q.symm))) hp
          grind
    · by_cases e : i = c
      · subst e
        rw [pm_s_at]
        exact pm_div_pos (iX i hi) hp
      · rw [pm_s_ne A x e]
        have h1 := pm_div_nonpos (iO i c hi (by omega) e) hp
        have h2 := iX c (by omega)
        have h3 := iX i hi
        have := Rat.mul_nonneg (a := -(pd_G c A i c / pd_G c A c c)) (b := pm_s n (pd_G c A) x c) (by grind) (Rat.le_of_lt h2)
        grind
    · rcases Nat.lt_or_ge k c with q | q
      · exact iP k q
      · rw [show k = c by omega]; exact hp
/-- a vector that is sent to nothing below 0 stays so; a last column that it bounds stays bounded -/
theorem pm_bound {A : Nat → Nat → Rat} {x y : Nat → Rat} {K : Rat} (hO : pm_O n A) (hx : ∀ j, j < n → 0 < x j) (hX : ∀ i, i < n → 0 < pm_s n A x i) (hY : ∀ i, i < n → 0 ≤ pm_s n A y i) (hK : ∀ i, i < n → A i n ≤ K * pm_s n A y i ∧ -(K * pm_s n A y i) ≤ A i n) : ∀ c, c ≤ n → (∀ i, i < n → 0 ≤ pm_s n (pd_G c A) y i) ∧ ∀ i, i < n → pd_G c A i n ≤ K * pm_s n (pd_G c A) y i ∧ -(K * pm_s n (pd_G c A) y i) ≤ pd_G c A i n
  | 0, _ => ⟨hY, hK⟩
  | c + 1, hc => by
    obtain ⟨iY, iK⟩ := pm_bound hO hx hX hY hK c (by omega)
    obtain ⟨iO, -, -⟩ := pm_keep hO hx hX c (by omega)
    have hp : 0 < pd_G c A c c := (pm_keep hO hx hX (c + 1) hc).2.2 c (by omega)
    have hi0 := Rat.inv_pos.mpr hp
    have hcY := iY c (by omega)
    obtain ⟨k1, k2⟩ := iK c (by omega)
    refine ⟨fun i hi => ?_, fun i hi => ?_⟩
    · by_cases e : i = c
      · subst e
        rw [pm_s_at]
        exact pm_div_nonneg (iY i hi) hp
      · rw [pm_s_ne A y e]
        have h1 := pm_div_nonpos (iO i c hi (by omega) e) hp
        have h3 := iY i hi
        have := Rat.mul_nonneg (a := -(pd_G c A i c / pd_G c A c c)) (b := pm_s n (pd_G c A) y c) (by grind) hcY
        grind
    · by_cases e : i = c
      · subst e
        rw [pm_s_at, pd_G_at, Rat.div_def, Rat.div_def]
        have a1 := Rat.mul_le_mul_of_nonneg_right k1 (Rat.le_of_lt hi0)
        have a2 := Rat.mul_le_mul_of_nonneg_right k2 (Rat.le_of_lt hi0)
        constructor <;> grind
      · rw [pm_s_ne A y e, pd_G_ne c A n e]
        have h1 := pm_div_nonpos (iO i c hi (by omega) e) hp
        obtain ⟨j1, j2⟩ := iK i hi
        have a1 := Rat.mul_le_mul_of_nonneg_left (c := -(pd_G c A i c / pd_G c A c c)) k1 (by grind)
        have a2 := Rat.mul_le_mul_of_nonneg_left (c := -(pd_G c A i c / pd_G c A c c)) k2 (by grind)
        have e3 : pd_G c A i c * pd_G c A c n / pd_G c A c c = pd_G c A i c / pd_G c A c c * pd_G c A c n := by rw [Rat.div_def, Rat.div_def]; grind
        rw [e3]
        constructor <;> grind
/-- diagonals only fall -/
theorem pm_diag {A : Nat → Nat → Rat} {x : Nat → Rat} (hO : pm_O n A) (hx : ∀ j, j < n → 0 < x j) (hX : ∀ i, i < n → 0 < pm_s n A x i) : ∀ c, c ≤ n → ∀ i, i < n → c ≤ i → pd_G c A i i ≤ A i i
  | 0, _, i, _, _ => Rat.le_refl
  | c + 1, hc, i, hi, hci => by
    have ih := pm_diag hO hx hX c (by omega) i hi (by omega)
    obtain ⟨iO, -, -⟩ := pm_keep hO hx hX c (by omega)
    have hp : 0 < pd_G c A c c := (pm_keep hO hx hX (c + 1) hc).2.2 c (by omega)
    rw [pd_G_ne c A i (by omega)]
    have := pm_div_nonneg (pm_mul_nonpos (iO i c hi (by omega) (by omega)) (iO c i (by omega) hi (by omega))) hp
    grind
/-- the numbers behind all pivots solve the rows -/
theorem pm_solve {A : Nat → Nat → Rat} (hp : ∀ k, k < n → pd_G k A k k ≠ 0) : ∀ i, i < n → pm_s n A (fun j => pd_G n A j n) i = A i n := by
  have key : ∀ m c, c + m = n → ∀ i, i < n → pm_s n (pd_G c A) (fun j => pd_G n A j n) i = pd_G c A i n := by
    intro m
    induction m with
    | zero =>
      intro c hc i hi
      have e : c = n := by omega
      subst e
      unfold pm_s
      have h1 : ∀ j, j < c → pd_G c A i j * pd_G c A j c = if j = i then pd_G c A i c else 0 := fun j hj => by
        rw [pd_unit A c hp i j hj]
        by_cases q : i = j
        · subst q; rw [if_pos rfl, if_pos rfl]; grind
        · rw [if_neg q, if_neg (fun e => q e.symm)]; grind
      rw [pz_m_congr c h1]
      have h2 : ∀ N : Nat, i < N → pz_m N (fun j => if j = i then pd_G c A i c else 0) = pd_G c A i c := by
        intro N
        induction N with
        | zero => intro h; exact absurd h (by omega)
        | succ N ih =>
          intro h
          simp only [pz_m]
          by_cases q : N = i
          · subst q
            rw [if_pos rfl, pz_m_zero (fun k hk => if_neg (by omega))]
            grind
          · rw [ih (by omega), if_neg q]; grind
      exact h2 c hi
    | succ m ih =>
      intro c hc i hi
      have hcp := hp c (by omega)
      have hc1 := ih (c + 1) (by omega) c (by omega)
      rw [pm_s_at, pd_G_at] at hc1
      have hrow : pm_s n (pd_G c A) (fun j => pd_G n A j n) c = pd_G c A c n := by
        have := congrArg (fun z => z * pd_G c A c c) hc1
        simp only [Rat.div_mul_cancel hcp] at this
        exact this
      by_cases e : i = c
      · subst e; exact hrow
      · have hi1 := ih (c + 1) (by omega) i hi
        rw [pm_s_ne A _ e, pd_G_ne c A n e, hrow] at hi1
        have e3 : pd_G c A i c * pd_G c A c n / pd_G c A c c = pd_G c A i c / pd_G c A c c * pd_G c A c n := by rw [Rat.div_def, Rat.div_def]; grind
        rw [e3] at hi1
        grind
  exact fun i hi => key n 0 (by omega) i hi
end PM
