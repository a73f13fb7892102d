/-! plans, counted: the first, the next, the last -/
def NUM (f : Nat → Int32) (d : Int) (c : Nat → Int32) : Nat → Int
  | 0 => 0
  | m + 1 => if (f (1 + m)).toInt = d ∧ (f (109 + m)).toInt < 0 then NUM f d c m * (f (25 + m)).toInt + (c m).toInt else NUM f d c m
def TOT (f : Nat → Int32) (d : Int) : Nat → Int
  | 0 => 1
  | m + 1 => if (f (1 + m)).toInt = d ∧ (f (109 + m)).toInt < 0 then TOT f d m * (f (25 + m)).toInt else TOT f d m
def LGd (f : Nat → Int32) (d : Int) (c : Nat → Int32) : Prop := ∀ j : Nat, j < (f 0).toInt.toNat → (f (1 + j)).toInt = d → (c j).toInt < (f (25 + j)).toInt ∧ (0 ≤ (f (109 + j)).toInt → (c j).toInt = (f (109 + j)).toInt)
def OTH (f : Nat → Int32) (d : Int) (c c' : Nat → Int32) : Prop := ∀ j : Nat, j < (f 0).toInt.toNat → ¬ (f (1 + j)).toInt = d → c' j = c j
theorem NUM_succ (f : Nat → Int32) (d : Int) (c : Nat → Int32) (m : Nat) : NUM f d c (m + 1) = if (f (1 + m)).toInt = d ∧ (f (109 + m)).toInt < 0 then NUM f d c m * (f (25 + m)).toInt + (c m).toInt else NUM f d c m := rfl
theorem TOT_succ (f : Nat → Int32) (d : Int) (m : Nat) : TOT f d (m + 1) = if (f (1 + m)).toInt = d ∧ (f (109 + m)).toInt < 0 then TOT f d m * (f (25 + m)).toInt else TOT f d m := rfl
section PN
variable {f c c' : Nat → Int32} {d : Int}
theorem NUM_cong : ∀ m : Nat, (∀ j, j < m → (f (1 + j)).toInt = d → c' j = c j) → NUM f d c' m = NUM f d c m
  | 0, _ => rfl
  | m + 1, h => by
    rw [NUM_succ, NUM_succ]
    rw [NUM_cong m (fun j hj => h j (by omega))]
    by_cases q : (f (1 + m)).toInt = d ∧ (f (109 + m)).toInt < 0
    · rw [if_pos q, if_pos q, h m (by omega) q.1]
    · rw [if_neg q, if_neg q]
theorem NUM_zero : ∀ m : Nat, (∀ j, j < m → (f (1 + j)).toInt = d → (f (109 + j)).toInt < 0 → (c j).toInt = 0) → NUM f d c m = 0
  | 0, _ => rfl
  | m + 1, h => by
    rw [NUM_succ]
    rw [NUM_zero m (fun j hj => h j (by omega))]
    by_cases q : (f (1 + m)).toInt = d ∧ (f (109 + m)).toInt < 0
    · rw [if_pos q, h m (by omega) q.1 q.2]; omega
    · rw [if_neg q]
theorem NUM_lt : ∀ m : Nat, (∀ j, j < m → (f (1 + j)).toInt = d → 0 ≤ (c j).toInt ∧ (c j).toInt < (f (25 + j)).toInt) → 0 ≤ NUM f d c m ∧ NUM f d c m + 1 ≤ TOT f d m
  | 0, _ => ⟨Int.le_refl _, Int.le_refl _⟩
  | m + 1, h => by
    have ih := NUM_lt m (fun j hj => h j (by omega))
    rw [NUM_succ, TOT_succ]
    by_cases q : (f (1 + m)).toInt = d ∧ (f (109 + m)).toInt < 0
    · rw [if_pos q, if_pos q]
      have hc := h m (by omega) q.1
      have h1 := Int.mul_le_mul_of_nonneg_right ih.2 (show 0 ≤ (f (25 + m)).toInt by omega)
      have h2 := Int.mul_nonneg ih.1 (show 0 ≤ (f (25 + m)).toInt by omega)
      rw [Int.add_mul] at h1
      omega
    · rw [if_neg q, if_neg q]; exact ih
theorem NUM_inj : ∀ m : Nat, (∀ j, j < m → (f (1 + j)).toInt = d → 0 ≤ (c j).toInt ∧ (c j).toInt < (f (25 + j)).toInt) → (∀ j, j < m → (f (1 + j)).toInt = d → 0 ≤ (c' j).toInt ∧ (c' j).toInt < (f (25 + j)).toInt) → NUM f d c m = NUM f d c' m → ∀ j, j < m → (f (1 + j)).toInt = d → (f (109 + j)).toInt < 0 → c j = c' j
  | 0, _, _, _ => fun j hj => absurd hj (by omega)
  | m + 1, h, h', e => by
    intro j hj k1 k2
    have e : (if (f (1 + m)).toInt = d ∧ (f (109 + m)).toInt < 0 then NUM f d c m * (f (25 + m)).toInt + (c m).toInt else NUM f d c m) = (if (f (1 + m)).toInt = d ∧ (f (109 + m)).toInt < 0 then NUM f d c' m * (f (25 + m)).toInt + (c' m).toInt else NUM f d c' m) := e
    have ih := NUM_inj m (fun j hj => h j (by omega)) (fun j hj => h' j (by omega))
    by_cases q : (f (1 + m)).toInt = d ∧ (f (109 + m)).toInt < 0
    · rw [if_pos q, if_pos q] at e
      have hc := h m (by omega) q.1
      have hc' := h' m (by omega) q.1
      have key : NUM f d c m = NUM f d c' m := by
        rcases Int.lt_trichotomy (NUM f d c m) (NUM f d c' m) with z | z | z
        · have := Int.mul_le_mul_of_nonneg_right (show NUM f d c m + 1 ≤ NUM f d c' m by omega) (show 0 ≤ (f (25 + m)).toInt by omega)
          rw [Int.add_mul] at this
          omega
        · exact z
        · have := Int.mul_le_mul_of_nonneg_right (show NUM f d c' m + 1 ≤ NUM f d c m by omega) (show 0 ≤ (f (25 + m)).toInt by omega)
          rw [Int.add_mul] at this
          omega
      by_cases q2 : j = m
      · subst q2
        rw [key] at e
        exact Int32.toInt_inj.mp (by omega)
      · exact ih key j (by omega) k1 k2
    · rw [if_neg q, if_neg q] at e
      by_cases q2 : j = m
      · subst q2; exact absurd ⟨k1, k2⟩ q
      · exact ih e j (by omega) k1 k2
theorem NUM_step {k : Nat} (h0 : NUM f d c' k = NUM f d c k + 1) : ∀ m : Nat, k ≤ m → (∀ j, k ≤ j → j < m → (f (1 + j)).toInt = d → (f (109 + j)).toInt < 0 → (c j).toInt + 1 = (f (25 + j)).toInt ∧ (c' j).toInt = 0) → NUM f d c' m = NUM f d c m + 1
  | 0, hk, _ => by rw [show k = 0 by omega] at h0; exact h0
  | m + 1, hk, h => by
    by_cases e : k = m + 1
    · rw [e] at h0; exact h0
    · have ih := NUM_step h0 m (by omega) (fun j hj hj2 => h j hj (by omega))
      rw [NUM_succ, NUM_succ]
      by_cases q : (f (1 + m)).toInt = d ∧ (f (109 + m)).toInt < 0
      · rw [if_pos q, if_pos q, ih]
        have := h m (by omega) (by omega) q.1 q.2
        rw [Int.add_mul]
        omega
      · rw [if_neg q, if_neg q]; exact ih
theorem NUM_max : ∀ m : Nat, (∀ j, j < m → (f (1 + j)).toInt = d → (f (109 + j)).toInt < 0 → (c j).toInt + 1 = (f (25 + j)).toInt) → NUM f d c m + 1 = TOT f d m
  | 0, _ => rfl
  | m + 1, h => by
    have ih := NUM_max m (fun j hj => h j (by omega))
    rw [NUM_succ, TOT_succ]
    by_cases q : (f (1 + m)).toInt = d ∧ (f (109 + m)).toInt < 0
    · rw [if_pos q, if_pos q, ← ih]
      have := h m (by omega) q.1 q.2
      rw [Int.add_mul]
      omega
    · rw [if_neg q, if_neg q]; exact ih
theorem TOT_le3 (hG : GS f) (d : Int) : ∀ m : Nat, m ≤ 12 → 0 ≤ TOT f d m ∧ TOT f d m ≤ 3 ^ m
  | 0, _ => ⟨by show (0 : Int) ≤ 1; decide, Int.le_refl _⟩
  | m + 1, hm => by
    have ih := TOT_le3 hG d m (by omega)
    have hw := (hG.r.2.1 m (by omega)).2.2.1
    rw [Int.pow_succ]
    rw [TOT_succ]
    by_cases q : (f (1 + m)).toInt = d ∧ (f (109 + m)).toInt < 0
    · rw [if_pos q]
      exact ⟨Int.mul_nonneg ih.1 hw.1, Int.mul_le_mul ih.2 hw.2 hw.1 (by omega)⟩
    · rw [if_neg q]; omega
theorem TOT_le (hG : GS f) (d : Int) : TOT f d (f 0).toInt.toNat ≤ 531441 := by
  have h0 := hG.r.1
  have h := TOT_le3 hG d (f 0).toInt.toNat (by omega)
  have e : ((3 : Int) ^ (f 0).toInt.toNat) ≤ 531441 := by
    rcases (show (f 0).toInt.toNat = 0 ∨ (f 0).toInt.toNat = 1 ∨ (f 0).toInt.toNat = 2 ∨ (f 0).toInt.toNat = 3 ∨ (f 0).toInt.toNat = 4 ∨ (f 0).toInt.toNat = 5 ∨ (f 0).toInt.toNat = 6 ∨ (f 0).toInt.toNat = 7 ∨ (f 0).toInt.toNat = 8 ∨ (f 0).toInt.toNat = 9 ∨ (f 0).toInt.toNat = 10 ∨ (f 0).toInt.toNat = 11 ∨ (f 0).toInt.toNat = 12 by omega) with z | z | z | z | z | z | z | z | z | z | z | z | z <;> rw [z] <;> decide
  omega
theorem NUM_in (hc : ∀ j : Nat, 0 ≤ (c j).toInt ∧ (c j).toInt ≤ 2) (h : LGd f d c) : 0 ≤ NUM f d c (f 0).toInt.toNat ∧ NUM f d c (f 0).toInt.toNat + 1 ≤ TOT f d (f 0).toInt.toNat := NUM_lt _ (fun j hj e => ⟨(hc j).1, (h j hj e).1⟩)
theorem OTH_self : OTH f d c c := fun _ _ _ => rfl
theorem OTH_trans {c2 : Nat → Int32} (h : OTH f d c c') (h2 : OTH f d c' c2) : OTH f d c c2 := fun j hj e => (h2 j hj e).trans (h j hj e)
theorem LGd_oth {d2 : Int} (h : LGd f d c) (ho : OTH f d2 c c') (hd : ¬ d = d2) : LGd f d c' := fun j hj e => by rw [ho j hj (by omega)]; exact h j hj e
theorem NUM_oth {d2 : Int} (ho : OTH f d2 c c') (hd : ¬ d = d2) : NUM f d c' (f 0).toInt.toNat = NUM f d c (f 0).toInt.toNat := NUM_cong _ (fun j hj e => ho j hj (by omega))
/-- the first plan, up to node k -/
def FPi (f : Nat → Int32) (d : Int) (c c' : Nat → Int32) (k : Nat) : Prop := (∀ j, j < k → (f (1 + j)).toInt = d → (c' j).toInt = if (f (109 + j)).toInt < 0 then 0 else (f (109 + j)).toInt) ∧ ∀ j, (k ≤ j ∨ ¬ (f (1 + j)).toInt = d) → c' j = c j
theorem FPi_zero : FPi f d c c 0 := ⟨fun j h => absurd h (by omega), fun _ _ => rfl⟩
theorem FPi_skip {k k2 : Nat} (h : FPi f d c c' k) (hk : ¬ (f (1 + k)).toInt = d) (e : k2 = k + 1) : FPi f d c c' k2 := by
  subst e
  refine ⟨fun j hj e => ?_, fun j hj => h.2 j (by omega)⟩
  by_cases q : j = k
  · subst q; exact absurd e hk
  · exact h.1 j (by omega) e
theorem FPi_put {k k2 : Nat} {c2 : Nat → Int32} {x : Int32} (h : FPi f d c c' k) (hk : (f (1 + k)).toInt = d) (hc : c2 = upd c' k x) (hx : x.toInt = if (f (109 + k)).toInt < 0 then 0 else (f (109 + k)).toInt) (e : k2 = k + 1) : FPi f d c c2 k2 := by
  subst e hc
  refine ⟨fun j hj e => ?_, fun j hj => ?_⟩
  · by_cases q : j = k
    · subst q; rw [upd_at]; exact hx
    · rw [upd_ne _ _ q]; exact h.1 j (by omega) e
  · have q : j ≠ k := fun z => by subst z; omega
    rw [upd_ne _ _ q]; exact h.2 j (by omega)
theorem FPi_done (hG : GS f) (hd : ¬ d = 0) {k : Nat} (h : FPi f d c c' k) (hk : k = (f 0).toInt.toNat) : LGd f d c' ∧ OTH f d c c' ∧ NUM f d c' (f 0).toInt.toNat = 0 := by
  subst hk
  have h0 := hG.r.1
  refine ⟨fun j hj e => ?_, fun j hj e => h.2 j (Or.inr e), NUM_zero _ (fun j hj e e2 => by rw [h.1 j hj e, if_pos e2])⟩
  rw [h.1 j hj e]
  have h1 := hG.2 j (by omega) (by omega)
  have h2 := hG.1.2.2.2.2.2.1 j (by omega) (by omega)
  split <;> omega
/-- the next plan, down to node k -/
def NPi (f : Nat → Int32) (d : Int) (c c' : Nat → Int32) (K : Nat) : Prop := (∀ j, (j < K ∨ (f 0).toInt.toNat ≤ j ∨ ¬ ((f (1 + j)).toInt = d ∧ (f (109 + j)).toInt < 0)) → c' j = c j) ∧ ∀ j, K ≤ j → j < (f 0).toInt.toNat → (f (1 + j)).toInt = d → (f (109 + j)).toInt < 0 → (c j).toInt + 1 = (f (25 + j)).toInt ∧ (c' j).toInt = 0
theorem NPi_start {K : Nat} (h : (f 0).toInt.toNat ≤ K) : NPi f d c c K := ⟨fun _ _ => rfl, fun j h1 h2 => absurd h2 (by omega)⟩
theorem NPi_skip {k K K2 : Nat} (h : NPi f d c c' K) (hk : ¬ ((f (1 + k)).toInt = d ∧ (f (109 + k)).toInt < 0)) (e : K = k + 1) (e2 : K2 = k) : NPi f d c c' K2 := by
  subst e e2
  refine ⟨fun j hj => h.1 j (by omega), fun j hj h2 h3 h4 => ?_⟩
  by_cases q : j = K2
  · subst q; exact absurd ⟨h3, h4⟩ hk
  · exact h.2 j (by omega) h2 h3 h4
theorem NPi_wrap {k K K2 : Nat} {c1 c2 : Nat → Int32} {x v : Int32} (h : NPi f d c c' K) (hL : LGd f d c) (hk : k < (f 0).toInt.toNat) (hkd : (f (1 + k)).toInt = d) (hh : (f (109 + k)).toInt < 0) (hc1 : c1 = upd c' k x) (hc2 : c2 = upd c1 k 0) (hv : v = c' k) (hx : x.toInt = v.toInt + 1) (hge : (f (25 + k)).toInt ≤ x.toInt) (e : K = k + 1) (e2 : K2 = k) : NPi f d c c2 K2 := by
  subst e e2 hc2 hc1 hv
  have e0 := h.1 K2 (Or.inl (by omega))
  have hl := (hL K2 hk hkd).1
  rw [e0] at hx
  refine ⟨fun j hj => ?_, fun j hj h2 h3 h4 => ?_⟩
  · have q : j ≠ K2 := fun z => by subst z; omega
    rw [upd_ne _ _ q, upd_ne _ _ q]; exact h.1 j (by omega)
  · by_cases q : j = K2
    · subst q; rw [upd_at]; exact ⟨by omega, by decide⟩
    · rw [upd_ne _ _ q, upd_ne _ _ q]; exact h.2 j (by omega) h2 h3 h4
def NPr (f : Nat → Int32) (d : Int) (c c' : Nat → Int32) (r : Int32) : Prop := LGd f d c' ∧ OTH f d c c' ∧ (¬ r.toInt = 0 → NUM f d c' (f 0).toInt.toNat = NUM f d c (f 0).toInt.toNat + 1) ∧ (r.toInt = 0 → NUM f d c (f 0).toInt.toNat + 1 = TOT f d (f 0).toInt.toNat)
theorem NPr_last (hG : GS f) (hd : ¬ d = 0) {K : Nat} {r : Int32} (h : NPi f d c c' K) (hL : LGd f d c) (hK : K = 0) (hr : r.toInt = 0) : NPr f d c c' r := by
  subst hK
  have h0 := hG.r.1
  refine ⟨fun j hj e => ?_, fun j hj e => h.1 j (Or.inr (Or.inr (fun z => e z.1))), fun z => absurd hr z, fun _ => NUM_max _ (fun j hj e e2 => (h.2 j (by omega) hj e e2).1)⟩
  by_cases q : (f (109 + j)).toInt < 0
  · have h1 := hG.2 j (by omega) (by omega)
    rw [(h.2 j (by omega) hj e q).2]
    exact ⟨by omega, fun z => by omega⟩
  · rw [h.1 j (Or.inr (Or.inr (fun z => q z.2)))]
    exact hL j hj e
theorem NPr_next (hG : GS f) (hd : ¬ d = 0) {k K : Nat} {c1 : Nat → Int32} {x v r : Int32} (h : NPi f d c c' K) (hL : LGd f d c) (hk : k < (f 0).toInt.toNat) (hkd : (f (1 + k)).toInt = d) (hh : (f (109 + k)).toInt < 0) (hc1 : c1 = upd c' k x) (hv : v = c' k) (hx : x.toInt = v.toInt + 1) (hlt : x.toInt < (f (25 + k)).toInt) (e : K = k + 1) (hr : ¬ r.toInt = 0) : NPr f d c c1 r := by
  subst e hc1 hv
  have h0 := hG.r.1
  have e0 := h.1 k (Or.inl (by omega))
  rw [e0] at hx
  refine ⟨fun j hj e => ?_, fun j hj e => ?_, fun _ => ?_, fun z => absurd z hr⟩
  · by_cases q : j = k
    · subst q; rw [upd_at]; exact ⟨hlt, fun z => by omega⟩
    · rw [upd_ne _ _ q]
      by_cases q1 : j < k
      · rw [h.1 j (Or.inl (by omega))]; exact hL j hj e
      · by_cases q2 : (f (109 + j)).toInt < 0
        · have h1 := hG.2 j (by omega) (by omega)
          rw [(h.2 j (by omega) hj e q2).2]
          exact ⟨by omega, fun z => by omega⟩
        · rw [h.1 j (Or.inr (Or.inr (fun z => q2 z.2)))]
          exact hL j hj e
  · have q : j ≠ k := fun z => by subst z; exact e hkd
    rw [upd_ne _ _ q]; exact h.1 j (Or.inr (Or.inr (fun z => e z.1)))
  · refine NUM_step (k := k + 1) ?_ _ (by omega) (fun j hj1 hj2 e1 e2 => ?_)
    · have e3 : NUM f d (upd c' k x) k = NUM f d c k := NUM_cong _ (fun j hj _ => by rw [upd_ne _ _ (by omega)]; exact h.1 j (Or.inl (by omega)))
      rw [NUM_succ, NUM_succ]
      rw [if_pos ⟨hkd, hh⟩, if_pos ⟨hkd, hh⟩, e3, upd_at]
      omega
    · rw [upd_ne _ _ (by omega)]
      exact h.2 j hj1 hj2 e1 e2
end PN
theorem tr_upd2 {F G H : Nat → Int32} {k : Nat} {a b : Int32} {lo hi : Int} (hF : ∀ j : Nat, lo ≤ (F j).toInt ∧ (F j).toInt ≤ hi) (hG : G = upd F k a) (hH : H = upd G k b) (hb : lo ≤ b.toInt ∧ b.toInt ≤ hi) : ∀ j : Nat, lo ≤ (H j).toInt ∧ (H j).toInt ≤ hi := by
  subst hH hG
  intro j
  by_cases q : j = k
  · subst q; rw [upd_at]; exact hb
  · rw [upd_ne _ _ q, upd_ne _ _ q]; exact hF j
theorem tr_upd1 {F G : Nat → Int32} {k : Nat} {a : Int32} {lo hi : Int} (hF : ∀ j : Nat, lo ≤ (F j).toInt ∧ (F j).toInt ≤ hi) (hG : G = upd F k a) (hb : lo ≤ a.toInt ∧ a.toInt ≤ hi) : ∀ j : Nat, lo ≤ (G j).toInt ∧ (G j).toInt ≤ hi := by
  subst hG
  exact tr_upd hF hb
