theorem all_next {P : Nat → Prop} {i j : Nat} (h : ∀ k : Nat, k < i → P k) (hi : P i) (e : j = i + 1) : ∀ k : Nat, k < j → P k := fun k hk => by
  by_cases q : k = i
  · subst q; exact hi
  · exact h k (by omega)
theorem upd_fill2 {F G : Nat → Int32} {v x : Int32} {i j a : Nat} (h : ∀ k : Nat, k < i → F k = v) (hG : G = upd F a x) (ha : a = i) (hx : x = v) (e : j = i + 1) : ∀ k : Nat, k < j → G k = v := by
  subst e; exact upd_fill h hG ha hx
theorem held_fill {F G : Nat → Int32} {x : Int32} {i j a : Nat} (h : (∀ k : Nat, k < 193 → (k < 109 ∨ 121 ≤ k) → F k = 0) ∧ ∀ k : Nat, k < i → F (109 + k) = (-1)) (hG : G = upd F a x) (ha : a = 109 + i) (hi : i < 12) (hx : x = (-1)) (e : j = i + 1) : (∀ k : Nat, k < 193 → (k < 109 ∨ 121 ≤ k) → G k = 0) ∧ ∀ k : Nat, k < j → G (109 + k) = (-1) := by
  subst hx ha e hG
  refine ⟨fun k q1 q2 => ?_, fun k q => ?_⟩
  · rw [upd_ne _ _ (by omega)]; exact h.1 k q1 q2
  · by_cases e : k = i
    · subst e; rw [upd_at]
    · rw [upd_ne _ _ (by omega)]; exact h.2 k (by omega)
theorem gp_fill {F : Nat → Int32} (h : (∀ k : Nat, k < 193 → (k < 109 ∨ 121 ≤ k) → F k = 0) ∧ ∀ k : Nat, k < 12 → F (109 + k) = (-1)) : GP F := gp_zero h.1 (fun k q => Or.inl (h.2 k q))
/-- the tried ways: each one a way of its node, the held one where one is held -/
def tw1 (f : Nat → Int32) (v : Int) (k : Nat) : Prop := (¬ (f (1 + k)).toInt = 0 → v < (f (25 + k)).toInt) ∧ (0 ≤ (f (109 + k)).toInt → ¬ (f (1 + k)).toInt = 0 → v = (f (109 + k)).toInt)
def TW (t f : Nat → Int32) : Prop := ∀ k : Nat, k < 12 → tw1 f (t k).toInt k
theorem tw_next {f F G : Nat → Int32} {x : Int32} {i j a : Nat} (h : ∀ k : Nat, k < i → tw1 f (F k).toInt k) (hG : G = upd F a x) (ha : a = i) (hx : tw1 f x.toInt i) (e : j = i + 1) : ∀ k : Nat, k < j → tw1 f (G k).toInt k := by
  subst ha e hG
  refine all_next (i := a) (fun k q => ?_) ?_ rfl
  · rw [upd_ne _ _ (by omega)]; exact h k q
  · rw [upd_at]; exact hx
theorem tw_zero {f : Nat → Int32} (h : GS f) {x : Int32} (hx : x.toInt = 0) {k : Nat} (hk : k < 12) (hh : (k : Int) < (f 0).toInt → (f (109 + k)).toInt ≤ 0) : tw1 f x.toInt k := by
  rw [hx]
  refine ⟨fun e => ?_, fun e1 e2 => ?_⟩
  · have := h.2 k hk e; omega
  · by_cases q : (f 0).toInt ≤ k
    · exact absurd (h.1.2.1 k hk q).1 e2
    · have := hh (by omega); omega
theorem tw_held {f : Nat → Int32} (h : GS f) {x : Int32} {k : Nat} (hk : k < 12) (hx : x = f (109 + k)) : tw1 f x.toInt k := by
  subst hx
  exact ⟨fun e => h.1.2.2.2.2.2.1 k hk e, fun _ _ => rfl⟩
/-- so many rows, one behind the other -/
def KS (f : Nat → Int32) (n : Nat) : Prop := ∀ j : Nat, j < n → GS (sl f (193 * j))
theorem ks_put {f h g : Nat → Int32} {n u a b : Nat} (hK : KS h n) (hf : GS f) (ha : a = 0) (hb : b = 193 * u) (hg : g = va_cpy f h a b 193) : KS g n := fun j hj => by
  subst ha hb
  by_cases e : j = u
  · subst e
    exact gs_cpy_in (by rw [sl_zero]; exact hf) hg
  · exact gs_cpy_out (hK j hj) hg (by omega)
theorem ks_get {f h g : Nat → Int32} {n u a b : Nat} (hK : KS f n) (hu : u < n) (ha : a = 193 * u) (hb : b = 0) (hg : g = va_cpy f h a b 193) : GS g := by
  subst ha hb
  have := gs_cpy_in (hK u hu) hg
  rwa [sl_zero] at this
theorem gs_copy {f h g : Nat → Int32} {a b : Nat} (hf : GS f) (ha : a = 0) (hb : b = 0) (hg : g = va_cpy f h a b 193) : GS g := by
  subst ha hb
  have := gs_cpy_in (sp := 0) (dp := 0) (by rw [sl_zero]; exact hf) hg
  rwa [sl_zero] at this
theorem ks_shift {f F : Nat → Int32} {i : Nat} (hi : i = 1351) (h : (∀ j : Nat, j < i → F j = f (j + 193)) ∧ ∀ j : Nat, i ≤ j → F j = f j) (hK : KS f 8) : KS F 8 := fun j hj => by
  subst hi
  by_cases e : j = 7
  · subst e
    exact gs_cong (hK 7 (by omega)) (fun k hk => h.2 _ (by omega))
  · refine gs_cong (hK (j + 1) (by omega)) (fun k hk => ?_)
    show F (193 * j + k) = f (193 * (j + 1) + k)
    rw [h.1 _ (by omega)]
    congr 1; omega
theorem shift_next {f F G : Nat → Int32} {x : Int32} {i j a : Nat} (h : (∀ j : Nat, j < i → F j = f (j + 193)) ∧ ∀ j : Nat, i ≤ j → F j = f j) (hG : G = upd F a x) (ha : a = i) (hx : x = F (i + 193)) (e : j = i + 1) : (∀ k : Nat, k < j → G k = f (k + 193)) ∧ ∀ k : Nat, j ≤ k → G k = f k := by
  subst ha e hG hx
  refine ⟨fun k q => ?_, fun k q => ?_⟩
  · by_cases e : k = a
    · subst e; rw [upd_at, h.2 _ (by omega)]
    · rw [upd_ne _ _ e]; exact h.1 k (by omega)
  · rw [upd_ne _ _ (by omega)]; exact h.2 k (by omega)
theorem gc_mono {f : Nat → Int32} {d : Int} : ∀ {a b : Nat}, a ≤ b → (a : Int) - gc f d a ≤ (b : Int) - gc f d b := by
  intro a b h
  induction b with
  | zero => obtain rfl : a = 0 := by omega
            exact Int.le_refl _
  | succ b ih =>
    by_cases e : a = b + 1
    · subst e; exact Int.le_refl _
    · have := ih (by omega)
      show _ ≤ _ - (gc f d b + _)
      split <;> omega
theorem gs_inner {f : Nat → Int32} (h : GS f) {k : Nat} (hk : (k : Int) ≤ (f 0).toInt) : (k : Int) - gc f 0 k ≤ 8 := by
  have h1 := gc_mono (f := f) (d := 0) (a := k) (b := (f 0).toInt.toNat) (by omega)
  have h2 := h.1.2.2.2.2.2.2.2.1
  have h3 := h.r.1
  omega
theorem tell_next {f : Nat → Int32} (h : GS f) {k : Nat} {t i : Int} (hk : k < 12) (ht : t ≤ 192 + 69 * ((k : Int) - gc f 0 k) + 23 * i) (hi : i ≤ (f (25 + k)).toInt) : t ≤ 192 + 69 * (((k + 1 : Nat) : Int) - gc f 0 (k + 1)) := by
  have h1 := (h.r.2.1 k hk).2.2.1
  have e : gc f 0 (k + 1) = gc f 0 k + (if (f (1 + k)).toInt = 0 then 1 else 0) := rfl
  rw [e]
  by_cases q : (f (1 + k)).toInt = 0
  · rw [if_pos q]
    have := h.1.2.2.1 k hk q
    omega
  · rw [if_neg q]
    omega
