/-! plans, counted: the first, the next, the last -/
def NUM (f : Nat → Int32) (d : Int) (c : Nat → Int32) : Nat → Int
  | 0 => 0
  | m + 1 => if (f (1 + m)).toInt = d ∧ (f (109 + m)).toInt < 0 then NUM f d c m * (f (25 + m)).toInt + (c m).toInt else NUM f d c m
def TOT (f : Nat → Int32) (d : Int) : Nat → Int
  | 0 => 1
  | m + 1 => if (f (1 + m)).toInt = d ∧ (f (109 + m)).toInt < 0 then TOT f d m * (f (25 + m)).toInt else TOT f d m
def LGd (f : Nat → Int32) (d : Int) (c : Nat → Int32) : Prop := ∀ j : Nat, j < (f 0).toInt.toNat → (f (1 + j)).toInt = d → (c j).toInt < (f (25 + j)).toInt ∧ (0 ≤ (f (109 + j)).toInt → (c j).toInt = (f (109 + j)).toInt)
def OTH (f : Nat → Int32) (d : Int) (c c' : Nat → Int32) : Prop := ∀ j : Nat, j < (f 0).toInt.toNat → ¬ (f (1 + j)).toInt = d → c' j = c j
theorem NUM_succ (f : Nat → Int32) (d : Int) (c : Nat → Int32) (m : Nat) : NUM f d c (m + 1) = if (f (1 + m)).toInt = d ∧ (f (109 + m)).toInt < 0 then NUM f d c m * (f (25 + m)).toInt + (c m).toInt else NUM f d c m := rfl
theorem TOT_succ (f : Nat → Int32) (d : Int) (m : Nat) : TOT f d (m + 1) = if (f (1 + m)).toInt = d ∧ (f (109 + m)).toInt < 0 then TOT f d m * (f (25 + m)).toInt else TOT f d m := rfl
section PN
variable {f c c' : Nat → Int32} {d : Int}
theorem NUM_cong : ∀ m : Nat, (∀ j, j < m → (f (1 + j)).toInt = d → c' j = c j) → NUM f d c' m = NUM f d c m
  | 0, _ => rfl
  | m + 1, h => by
    rw [NUM_succ, NUM_succ]
    rw [NUM_cong m (fun j hj => h j (by omega))]
    by_cases q : (f (1 + m)).toInt = d ∧ (f (109 + m)).toInt < 0
    · rw [if_pos q, if_pos q, h m (by omega) q.1]
    · rw [if_neg q, if_neg q]
theorem NUM_zero : ∀ m : Nat, (∀ j, j < m → (f (1 + j)).toInt = d → (f (109 + j)).toInt < 0 → (c j).toInt = 0) → NUM f d c m = 0
  | 0, _ => rfl
  | m + 1, h => by
    rw [NUM_succ]
    rw [NUM_zero m (fun j hj => h j (by omega))]
    by_cases q : (f (1 + m)).toInt = d ∧ (f (109 + m)).toInt < 0
    · rw [if_pos q, h m (by omega) q.1 q.2]; omega
    · rw [if_neg q]
theorem NUM_lt : ∀ m : Nat, (∀ j, j < m → (f (1 + j)).toInt = d → 0 ≤ (c j).toInt ∧ (c j).toInt < (f (25 + j)).toInt) → 0 ≤ NUM f d c m ∧ NUM f d c m + 1 ≤ TOT f d m
  | 0, _ => ⟨Int.le_refl _, Int.le_refl _⟩
  | m + 1, h => by
    have ih := NUM_lt m (fun j hj => h j (by omega))
    rw [NUM_succ, TOT_succ]
    by_cases q : (f (1 + m)).toInt = d ∧ (f (109 + m)).toInt < 0
    · rw [if_pos q, if_pos q]
      have hc := h m (by omega) q.1
      have h1 := Int.mul_le_mul_of_nonneg_right ih.2 (show 0 ≤ (f (25 + m)).toInt by omega)
      have h2 := Int.mul_nonneg ih.1 (show 0 ≤ (f (25 + m)).toInt by omega)
      rw [Int.add_mul] at h1
      omega
    · rw [if_neg q, if_neg q]; exact ih
theorem NUM_inj : ∀ m : Nat, (∀ j, j < m → (f (1 + j)).toInt = d → 0 ≤ (c j).toInt ∧ (c j).toInt < (f (25 + j)).toInt) → (∀ j, j < m → (f (1 + j)).toInt = d → 0 ≤ (c' j).toInt ∧ (c' j).toInt < (f (25 + j)).toInt) → NUM f d c m = NUM f d c' m → ∀ j, j < m → (f (1 + j)).toInt = d → (f (109 + j)).toInt < 0 → c j = c' j
  | 0, _, _, _ => fun j hj => absurd hj (by omega)
  | m + 1, h, h', e => by
    intro j hj k1 k2
    have e : (if (f (1 + m)).toInt = d ∧ (f (109 + m)).toInt < 0 then NUM f d c m * (f (25 + m)).toInt + (c m).toInt else NUM f d c m) = (if (f (1 + m)).toInt = d ∧ (f (109 + m)).toInt < 0 then NUM f d c' m * (f (25 + m)).toInt + (c' m).toInt else NUM f d c' m) := e
    have ih := NUM_inj m (fun j hj => h j (by omega)) (fun j hj => h' j (by omega))
    by_cases q : (f (1 + m)).toInt = d ∧ (f (109 + m)).toInt < 0
    · rw [if_pos q, if_pos q] at e
      have hc := h m (by omega) q.1
      have hc' := h' m (by omega) q.1
      have key : NUM f d c m = NUM f d c' m := by
        rcases Int.lt_trichotomy (NUM f d c m) (NUM f d c' m) with z | z | z
        · have := Int.mul_le_mul_of_nonneg_right (show NUM f d c m + 1 ≤ NUM f d c' m by omega) (show 0 ≤ (f (25 + m)).toInt by omega)
          rw [Int.add_mul] at this
          omega
        · exact z
        · have := Int.mul_le_mul_of_nonneg_right (show NUM f d c' m + 1 ≤ NUM f d c m by omega) (show 0 ≤ (f (25 + m)).toInt by omega)
          rw [Int.add_mul] at this
          omega
      by_cases q2 : j = m
      · subst q2
        rw [key] at e
        exact Int32.toInt_inj.mp (by omega)
      · exact ih key j (by omega) k1 k2
    · rw [if_neg q, if_neg q] at e
      by_cases q2 : j = m
      · subst q2; exact absurd ⟨k1, k2⟩ q
      · exact ih e j (by omega) k1 k2
theorem NUM_step {k : Nat} (h0 : NUM f d c' k = NUM f d c k + 1) : ∀ m : Nat, k ≤ m → (∀ j, k ≤ j → j < m → (f (1 + j)).toInt = d → (f (109 + j)).toInt < 0 → (c j).toInt + 1 = (f (25 + j)).toInt ∧ (c' j).toInt = 0) → NUM f d c' m = NUM f d c m + 1
  | 0, hk, _ => by rw [show k = 0 by omega] at h0; exact h0
  | m + 1, hk, h => by
    by_cases e : k = m + 1
    · rw [e] at h0; exact h0
    · have ih := NUM_step h0 m (by omega) (fun j hj hj2 => h j hj (by omega))
      rw [NUM_succ, NUM_succ]
      by_cases q : (f (1 + m)).toInt = d ∧ (f (109 + m)).toInt < 0
      · rw [if_pos q, if_pos q, ih]
        have := h m (by omega) (by omega) q.1 q.2
        rw [Int.add_mul]
        omega
      · rw [if_neg q, if_neg q]; exact ih
theorem NUM_max : ∀ m : Nat, (∀ j, j < m → (f (1 + j)).toInt = d → (f (109 + j)).toInt < 0 → (c j).toInt + 1 = (f (25 + j)).toInt) → NUM f d c m + 1 = TOT f d m
  | 0, _ => rfl
  | m + 1, h => by
    have ih := NUM_max m (fun j hj => h j (by omega))
    rw [NUM_succ, TOT_succ]
    by_cases q : (f (1 + m)).toInt = d ∧ (f (109 + m)).toInt < 0
    · rw [if_pos q, if_pos q, ← ih]
      have := h m (by omega) q.1 q.2
      rw [Int.add_mul]
      omega
    · rw [if_neg q, if_neg q]; exact ih
theorem TOT_le3 (hG : GS f) (d : Int) : ∀ m : Nat, m ≤ 12 → 0 ≤ TOT f d m ∧ TOT f d m ≤ 3 ^ m
  | 0, _ => ⟨by show (0 : Int) ≤ 1; decide, Int.le_refl _⟩
  | m + 1, hm => by
    have ih := TOT_le3 hG d m (by omega)
    have hw := (hG.r.2.1 m (by omega)).2.2.1
    rw [Int.pow_succ]
    rw [TOT_succ]
    by_cases q : (f (1 + m)).toInt = d ∧ (f (109 + m)).toInt < 0
    · rw [if_pos q]
      exact ⟨Int.mul_nonneg ih.1 hw.1, Int.mul_le_mul ih.2 hw.2 hw.1 (by omega)⟩
    · rw [if_neg q]; omega
theorem TOT_le (hG : GS f) (d : Int) : TOT f d (f 0).toInt.toNat ≤ 531441 := by
  have h0 := hG.r.1
  have h := TOT_le3 hG d (f 0).toInt.toNat (by omega)
  have e : ((3 : Int) ^ (f 0).toInt.toNat) ≤ 531441 := by
    rcases (show (f 0).toInt.toNat = 0 ∨ (f 0).toInt.toNat = 1 ∨ (f 0).toInt.toNat = 2 ∨ (f 0).toInt.toNat = 3 ∨ (f 0).toInt.toNat = 4 ∨ (f 0).toInt.toNat = 5 ∨ (f 0).toInt.toNat = 6 ∨ (f 0).toInt.toNat = 7 ∨ (f 0).toInt.toNat = 8 ∨ (f 0).toInt.toNat = 9 ∨ (f 0).toInt.toNat = 10 ∨ (f 0).toInt.toNat = 11 ∨ (f 0).toInt.toNat = 12 by omega) with z | z | z | z | z | z | z | z | z | z | z | z | z <;> rw [z] <;> decide
  omega
theorem NUM_in (hc : ∀ j : Nat, 0 ≤ (c j).toInt ∧ (c j).toInt ≤ 2) (h : LGd f d c) : 0 ≤ NUM f d c (f 0).toInt.toNat ∧ NUM f d c (f 0).toInt.toNat + 1 ≤ TOT f d (f 0).toInt.toNat := NUM_lt _ (fun j hj e => ⟨(hc j).1, (h j hj e).1⟩)
theorem OTH_self : OTH f d c c := fun _ _ _ => rfl
theorem OTH_trans {c2 : Nat → Int32} (h : OTH f d c c') (h2 : OTH f d c' c2) : OTH f d c c2 := fun j hj e => (h2 j hj e).trans (h j hj e)
theorem LGd_oth {d2 : Int} (h : LGd f d c) (ho : OTH f d2 c c') (hd : ¬ d = d2) : LGd f d c' := fun j hj e => by rw [ho j hj (by omega)]; exact h j hj e
theorem NUM_oth {d2 : Int} (ho : OTH f d2 c c') (hd : ¬ d = d2) : NUM f d c' (f 0).toInt.toNat = NUM f d c (f 0).toInt.toNat := NUM_cong _ (fun j hj e => ho j hj (by omega))
/-- the first plan, up to node k -/
def FPi (f : Nat → Int32) (d : Int) (c c' : Nat → Int32) (k : Nat) : Prop := (∀ j, j < k → (f (1 + j)).toInt = d → (c' j).toInt = if (f (109 + j)).toInt < 0 then 0 else (f (109 + j)).toInt) ∧ ∀ j, (k ≤ j ∨ ¬ (f (1 + j)).toInt = d) → c' j = c j
theorem FPi_zero : FPi f d c c 0 := ⟨fun j h => absurd h (by omega), fun _ _ => rfl⟩
theorem FPi_skip {k k2 : Nat} (h : FPi f d c c' k) (hk : ¬ (f (1 + k)).toInt = d) (e : k2 = k + 1) : FPi f d c c' k2 := by
  subst e
  refine ⟨fun j hj e => ?_, fun j hj => h.2 j (by omega)⟩
  by_cases q : j = k
  · subst q; exact absurd e hk
  · exact h.1 j (by omega) e
theorem FPi_put {k k2 : Nat} {c2 : Nat → Int32} {x : Int32} (h : FPi f d c c' k) (hk : (f (1 + k)).toInt = d) (hc : c2 = upd c' k x) (hx : x.toInt = if (f (109 + k)).toInt < 0 then 0 else (f (109 + k)).toInt) (e : k2 = k + 1) : FPi f d c c2 k2 := by
  subst e hc
  refine ⟨fun j hj e => ?_, fun j hj => ?_⟩
  · by_cases q : j = k
    · subst q; rw [upd_at]; exact hx
    · rw [upd_ne _ _ q]; exact h.1 j (by omega) e
  · have q : j ≠ k := fun z => by subst z; omega
    rw [upd_ne _ _ q]; exact h.2 j (by omega)
theorem FPi_done (hG : GS f) (hd : ¬ d = 0) {k : Nat} (h : FPi f d c c' k) (hk : k = (f 0).toInt.toNat) : LGd f d c' ∧ OTH f d c c' ∧ NUM f d c' (f 0).toInt.toNat = 0 := by
  subst hk
  have h0 := hG.r.1
  refine ⟨fun j hj e => ?_, fun j hj e => h.2 j (Or.inr e), NUM_zero _ (fun j hj e e2 => by rw [h.1 j hj e, if_pos e2])⟩
  rw [h.1 j hj e]
  have h1 := hG.2 j (by omega) (by omega)
  have h2 := hG.1.2.2.2.2.2.1 j (by omega) (by omega)
  split <;> omega
/-- the next plan, down to node k -/
def NPi (f : Nat → Int32) (d : Int) (c c' : Nat → Int32) (K : Nat) : Prop := (∀ j, (j < K ∨ (f 0).toInt.toNat ≤ j ∨ ¬ ((f (1 + j)).toInt = d ∧ (f (109 + j)).toInt < 0)) → c' j = c j) ∧ ∀ j, K ≤ j → j < (f 0).toInt.toNat → (f (1 + j)).toInt = d → (f (109 + j)).toInt < 0 → (c j).toInt + 1 = (f (25 + j)).toInt ∧ (c' j).toInt = 0
theorem NPi_start {K : Nat} (h : (f 0).toInt.toNat ≤ K) : NPi f d c c K := ⟨fun _ _ => rfl, fun j h1 h2 => absurd h2 (by omega)⟩
theorem NPi_skip {k K K2 : Nat} (h : NPi f d c c' K) (hk : ¬ ((f (1 + k)).toInt = d ∧ (f (109 + k)).toInt < 0)) (e : K = k + 1) (e2 : K2 = k) : NPi f d c c' K2 := by
  subst e e2
  refine ⟨fun j hj => h.1 j (by omega), fun j hj h2 h3 h4 => ?_⟩
  by_cases q : j = K2
  · subst q; exact absurd ⟨h3, h4⟩ hk
  · exact h.2 j (by omega) h2 h3 h4
theorem NPi_wrap {k K K2 : Nat} {c1 c2 : Nat → Int32} {x v : Int32} (h : NPi f d c c' K) (hL : LGd f d c) (hk : k < (f 0).toInt.toNat) (hkd : (f (1 + k)).toInt = d) (hh : (f (109 + k)).toInt < 0) (hc1 : c1 = upd c' k x) (hc2 : c2 = upd c1 k 0) (hv : v = c' k) (hx : x.toInt = v.toInt + 1) (hge : (f (25 + k)).toInt ≤ x.toInt) (e : K = k + 1) (e2 : K2 = k) : NPi f d c c2 K2 := by
  subst e e2 hc2 hc1 hv
  have e0 := h.1 K2 (Or.inl (by omega))
  have hl := (hL K2 hk hkd).1
  rw [e0] at hx
  refine ⟨fun j hj => ?_, fun j hj h2 h3 h4 => ?_⟩
  · have q : j ≠ K2 := fun z => by subst z; omega
    rw [upd_ne _ _ q, upd_ne _ _ q]; exact h.1 j (by omega)
  · by_cases q : j = K2
    · subst q; rw [upd_at]; exact ⟨by omega, by decide⟩
    · rw [upd_ne _ _ q, upd_ne _ _ q]; exact h.2 j (by omega) h2 h3 h4
def NPr (f : Nat → Int32) (d : Int) (c c' : Nat → Int32) (r : Int32) : Prop := LGd f d c' ∧ OTH f d c c' ∧ (¬ r.toInt = 0 → NUM f d c' (f 0).toInt.toNat = NUM f d c (f 0).toInt.toNat + 1) ∧ (r.toInt = 0 → NUM f d c (f 0).toInt.toNat + 1 = TOT f d (f 0).toInt.toNat)
theorem NPr_last (hG : GS f) (hd : ¬ d = 0) {K : Nat} {r : Int32} (h : NPi f d c c' K) (hL : LGd f d c) (hK : K = 0) (hr : r.toInt = 0) : NPr f d c c' r := by
  subst hK
  have h0 := hG.r.1
  refine ⟨fun j hj e => ?_, fun j hj e => h.1 j (Or.inr (Or.inr (fun z => e z.1))), fun z => absurd hr z, fun _ => NUM_max _ (fun j hj e e2 => (h.2 j (by omega) hj e e2).1)⟩
  by_cases q : (f (109 + j)).toInt < 0
  · have h1 := hG.2 j (by omega) (by omega)
    rw [(h.2 j (by omega) hj e q).2]
    exact ⟨by omega, fun z => by omega⟩
  · rw [h.1 j (Or.inr (Or.inr (fun z => q z.2)))]
    exact hL j hj e
theorem NPr_next (hG : GS f) (hd : ¬ d = 0) {k K : Nat} {c1 : Nat → Int32} {x v r : Int32} (h : NPi f d c c' K) (hL : LGd f d c) (hk : k < (f 0).toInt.toNat) (hkd : (f (1 + k)).toInt = d) (hh : (f (109 + k)).toInt < 0) (hc1 : c1 = upd c' k x) (hv : v = c' k) (hx : x.toInt = v.toInt + 1) (hlt : x.toInt < (f (25 + k)).toInt) (e : K = k + 1) (hr : ¬ r.toInt = 0) : NPr f d c c1 r := by
  subst e hc1 hv
  have h0 := hG.r.1
  have e0 := h.1 k (Or.inl (by omega))
  rw [e0] at hx
  refine ⟨fun j hj e => ?_, fun j hj e => ?_, fun _ => ?_, fun z => absurd z hr⟩
  · by_cases q : j = k
    · subst q; rw [upd_at]; exact ⟨hlt, fun z => by omega⟩
    · rw [upd_ne _ _ q]
      by_cases q1 : j < k
      · rw [h.1 j (Or.inl (by omega))]; exact hL j hj e
      · by_cases q2 : (f (109 + j)).toInt < 0
        · have h1 := hG.2 j (by omega) (by omega)
          rw [(h.2 j (by omega) hj e q2).2]
          exact ⟨by omega, fun z => by omega⟩
        · rw [h.1 j (Or.inr (Or.inr (fun z => q2 z.2)))]
          exact hL j hj e
  · have q : j ≠ k := fun z => by subst z; exact e hkd
    rw [upd_ne _ _ q]; exact h.1 j (Or.inr (Or.inr (fun z => e z.1)))
  · refine NUM_step (k := k + 1) ?_ _ (by omega) (fun j hj1 hj2 e1 e2 => ?_)
    · have e3 : NUM f d (upd c' k x) k = NUM f d c k := NUM_cong _ (fun j hj _ => by rw [upd_ne _ _ (by omega)]; exact h.1 j (Or.inl (by omega)))
      rw [NUM_succ, NUM_succ]
      rw [if_pos ⟨hkd, hh⟩, if_pos ⟨hkd, hh⟩, e3, upd_at]
      omega
    · rw [upd_ne _ _ (by omega)]
      exact h.2 j hj1 hj2 e1 e2
end PN
theorem tr_upd2 {F G H : Nat → Int32} {k : Nat} {a b : Int32} {lo hi : Int} (hF : ∀ j : Nat, lo ≤ (F j).toInt ∧ (F j).toInt ≤ hi) (hG : G = upd F k a) (hH : H = upd G k b) (hb : lo ≤ b.toInt ∧ b.toInt ≤ hi) : ∀ j : Nat, lo ≤ (H j).toInt ∧ (H j).toInt ≤ hi := by
  subst hH hG
  intro j
  by_cases q : j = k
  · subst q; rw [upd_at]; exact hb
  · rw [upd_ne _ _ q, upd_ne _ _ q]; exact hF j
theorem tr_upd1 {F G : Nat → Int32} {k : Nat} {a : Int32} {lo hi : Int} (hF : ∀ j : Nat, lo ≤ (F j).toInt ∧ (F j).toInt ≤ hi) (hG : G = upd F k a) (hb : lo ≤ a.toInt ∧ a.toInt ≤ hi) : ∀ j : Nat, lo ≤ (G j).toInt ∧ (G j).toInt ≤ hi := by
  subst hG
  exact tr_upd hF hb
theorem dX12_firstPlan_0 : decode cX12_firstPlan 0 = .ok (.iconst 0, 1) := by decide +kernel
theorem dX12_firstPlan_1 : decode cX12_firstPlan 1 = .ok (.istore_n 2, 1) := by decide +kernel
theorem dX12_firstPlan_2 : decode cX12_firstPlan 2 = .ok (.iload_n 2, 1) := by decide +kernel
theorem dX12_firstPlan_3 : decode cX12_firstPlan 3 = .ok (.aload_n 0, 1) := by decide +kernel
theorem dX12_firstPlan_4 : decode cX12_firstPlan 4 = .ok (.getfield 13, 3) := by decide +kernel
theorem dX12_firstPlan_7 : decode cX12_firstPlan 7 = .ok (.iconst 0, 1) := by decide +kernel
theorem dX12_firstPlan_8 : decode cX12_firstPlan 8 = .ok (.iaload, 1) := by decide +kernel
theorem dX12_firstPlan_9 : decode cX12_firstPlan 9 = .ok (.if_icmp .ge 49, 3) := by decide +kernel
theorem dX12_firstPlan_12 : decode cX12_firstPlan 12 = .ok (.aload_n 0, 1) := by decide +kernel
theorem dX12_firstPlan_13 : decode cX12_firstPlan 13 = .ok (.iload_n 2, 1) := by decide +kernel
theorem dX12_firstPlan_14 : decode cX12_firstPlan 14 = .ok (.iload_n 1, 1) := by decide +kernel
theorem dX12_firstPlan_15 : decode cX12_firstPlan 15 = .ok (.invokevirtual 187, 3) := by decide +kernel
theorem dX12_firstPlan_18 : decode cX12_firstPlan 18 = .ok (.ifCond .eq 34, 3) := by decide +kernel
theorem dX12_firstPlan_21 : decode cX12_firstPlan 21 = .ok (.aload_n 0, 1) := by decide +kernel
theorem dX12_firstPlan_22 : decode cX12_firstPlan 22 = .ok (.getfield 40, 3) := by decide +kernel
theorem dX12_firstPlan_25 : decode cX12_firstPlan 25 = .ok (.iload_n 2, 1) := by decide +kernel
theorem dX12_firstPlan_26 : decode cX12_firstPlan 26 = .ok (.aload_n 0, 1) := by decide +kernel
theorem dX12_firstPlan_27 : decode cX12_firstPlan 27 = .ok (.getfield 13, 3) := by decide +kernel
theorem dX12_firstPlan_30 : decode cX12_firstPlan 30 = .ok (.bipush 109, 2) := by decide +kernel
theorem dX12_firstPlan_32 : decode cX12_firstPlan 32 = .ok (.iload_n 2, 1) := by decide +kernel
theorem dX12_firstPlan_33 : decode cX12_firstPlan 33 = .ok (.iadd, 1) := by decide +kernel
theorem dX12_firstPlan_34 : decode cX12_firstPlan 34 = .ok (.iaload, 1) := by decide +kernel
theorem dX12_firstPlan_35 : decode cX12_firstPlan 35 = .ok (.ifCond .ge 7, 3) := by decide +kernel
theorem dX12_firstPlan_38 : decode cX12_firstPlan 38 = .ok (.iconst 0, 1) := by decide +kernel
theorem dX12_firstPlan_39 : decode cX12_firstPlan 39 = .ok (.goto 12, 3) := by decide +kernel
theorem dX12_firstPlan_42 : decode cX12_firstPlan 42 = .ok (.aload_n 0, 1) := by decide +kernel
theorem dX12_firstPlan_43 : decode cX12_firstPlan 43 = .ok (.getfield 13, 3) := by decide +kernel
theorem dX12_firstPlan_46 : decode cX12_firstPlan 46 = .ok (.bipush 109, 2) := by decide +kernel
theorem dX12_firstPlan_48 : decode cX12_firstPlan 48 = .ok (.iload_n 2, 1) := by decide +kernel
theorem dX12_firstPlan_49 : decode cX12_firstPlan 49 = .ok (.iadd, 1) := by decide +kernel
theorem dX12_firstPlan_50 : decode cX12_firstPlan 50 = .ok (.iaload, 1) := by decide +kernel
theorem dX12_firstPlan_51 : decode cX12_firstPlan 51 = .ok (.iastore, 1) := by decide +kernel
theorem dX12_firstPlan_52 : decode cX12_firstPlan 52 = .ok (.iinc 2 1, 3) := by decide +kernel
theorem dX12_firstPlan_55 : decode cX12_firstPlan 55 = .ok (.goto (-53), 3) := by decide +kernel
theorem dX12_firstPlan_58 : decode cX12_firstPlan 58 = .ok (.return_, 1) := by decide +kernel
theorem dX12_isMore_0 : decode cX12_isMore 0 = .ok (.lload_n 0, 1) := by decide +kernel
theorem dX12_isMore_1 : decode cX12_isMore 1 = .ok (.lload 6, 2) := by decide +kernel
theorem dX12_isMore_3 : decode cX12_isMore 3 = .ok (.lmul, 1) := by decide +kernel
theorem dX12_isMore_4 : decode cX12_isMore 4 = .ok (.lload 4, 2) := by decide +kernel
theorem dX12_isMore_6 : decode cX12_isMore 6 = .ok (.lload_n 2, 1) := by decide +kernel
theorem dX12_isMore_7 : decode cX12_isMore 7 = .ok (.lmul, 1) := by decide +kernel
theorem dX12_isMore_8 : decode cX12_isMore 8 = .ok (.lcmp, 1) := by decide +kernel
theorem dX12_isMore_9 : decode cX12_isMore 9 = .ok (.ifCond .le 7, 3) := by decide +kernel
theorem dX12_isMore_12 : decode cX12_isMore 12 = .ok (.iconst 1, 1) := by decide +kernel
theorem dX12_isMore_13 : decode cX12_isMore 13 = .ok (.goto 4, 3) := by decide +kernel
theorem dX12_isMore_16 : decode cX12_isMore 16 = .ok (.iconst 0, 1) := by decide +kernel
theorem dX12_isMore_17 : decode cX12_isMore 17 = .ok (.ireturn, 1) := by decide +kernel
theorem dX12_nextPlan_0 : decode cX12_nextPlan 0 = .ok (.aload_n 0, 1) := by decide +kernel
theorem dX12_nextPlan_1 : decode cX12_nextPlan 1 = .ok (.getfield 13, 3) := by decide +kernel
theorem dX12_nextPlan_4 : decode cX12_nextPlan 4 = .ok (.iconst 0, 1) := by decide +kernel
theorem dX12_nextPlan_5 : decode cX12_nextPlan 5 = .ok (.iaload, 1) := by decide +kernel
theorem dX12_nextPlan_6 : decode cX12_nextPlan 6 = .ok (.iconst 1, 1) := by decide +kernel
theorem dX12_nextPlan_7 : decode cX12_nextPlan 7 = .ok (.isub, 1) := by decide +kernel
theorem dX12_nextPlan_8 : decode cX12_nextPlan 8 = .ok (.istore_n 2, 1) := by decide +kernel
theorem dX12_nextPlan_9 : decode cX12_nextPlan 9 = .ok (.iload_n 2, 1) := by decide +kernel
theorem dX12_nextPlan_10 : decode cX12_nextPlan 10 = .ok (.ifCond .lt 70, 3) := by decide +kernel
theorem dX12_nextPlan_13 : decode cX12_nextPlan 13 = .ok (.aload_n 0, 1) := by decide +kernel
theorem dX12_nextPlan_14 : decode cX12_nextPlan 14 = .ok (.iload_n 2, 1) := by decide +kernel
theorem dX12_nextPlan_15 : decode cX12_nextPlan 15 = .ok (.iload_n 1, 1) := by decide +kernel
theorem dX12_nextPlan_16 : decode cX12_nextPlan 16 = .ok (.invokevirtual 187, 3) := by decide +kernel
theorem dX12_nextPlan_19 : decode cX12_nextPlan 19 = .ok (.ifCond .eq 55, 3) := by decide +kernel
theorem dX12_nextPlan_22 : decode cX12_nextPlan 22 = .ok (.aload_n 0, 1) := by decide +kernel
theorem dX12_nextPlan_23 : decode cX12_nextPlan 23 = .ok (.getfield 13, 3) := by decide +kernel
theorem dX12_nextPlan_26 : decode cX12_nextPlan 26 = .ok (.bipush 109, 2) := by decide +kernel
theorem dX12_nextPlan_28 : decode cX12_nextPlan 28 = .ok (.iload_n 2, 1) := by decide +kernel
theorem dX12_nextPlan_29 : decode cX12_nextPlan 29 = .ok (.iadd, 1) := by decide +kernel
theorem dX12_nextPlan_30 : decode cX12_nextPlan 30 = .ok (.iaload, 1) := by decide +kernel
theorem dX12_nextPlan_31 : decode cX12_nextPlan 31 = .ok (.ifCond .lt 6, 3) := by decide +kernel
theorem dX12_nextPlan_34 : decode cX12_nextPlan 34 = .ok (.goto 40, 3) := by decide +kernel
theorem dX12_nextPlan_37 : decode cX12_nextPlan 37 = .ok (.aload_n 0, 1) := by decide +kernel
theorem dX12_nextPlan_38 : decode cX12_nextPlan 38 = .ok (.getfield 40, 3) := by decide +kernel
theorem dX12_nextPlan_41 : decode cX12_nextPlan 41 = .ok (.iload_n 2, 1) := by decide +kernel
theorem dX12_nextPlan_42 : decode cX12_nextPlan 42 = .ok (.dup2, 1) := by decide +kernel
theorem dX12_nextPlan_43 : decode cX12_nextPlan 43 = .ok (.iaload, 1) := by decide +kernel
theorem dX12_nextPlan_44 : decode cX12_nextPlan 44 = .ok (.iconst 1, 1) := by decide +kernel
theorem dX12_nextPlan_45 : decode cX12_nextPlan 45 = .ok (.iadd, 1) := by decide +kernel
theorem dX12_nextPlan_46 : decode cX12_nextPlan 46 = .ok (.iastore, 1) := by decide +kernel
theorem dX12_nextPlan_47 : decode cX12_nextPlan 47 = .ok (.aload_n 0, 1) := by decide +kernel
theorem dX12_nextPlan_48 : decode cX12_nextPlan 48 = .ok (.getfield 40, 3) := by decide +kernel
theorem dX12_nextPlan_51 : decode cX12_nextPlan 51 = .ok (.iload_n 2, 1) := by decide +kernel
theorem dX12_nextPlan_52 : decode cX12_nextPlan 52 = .ok (.iaload, 1) := by decide +kernel
theorem dX12_nextPlan_53 : decode cX12_nextPlan 53 = .ok (.aload_n 0, 1) := by decide +kernel
theorem dX12_nextPlan_54 : decode cX12_nextPlan 54 = .ok (.getfield 13, 3) := by decide +kernel
theorem dX12_nextPlan_57 : decode cX12_nextPlan 57 = .ok (.bipush 25, 2) := by decide +kernel
theorem dX12_nextPlan_59 : decode cX12_nextPlan 59 = .ok (.iload_n 2, 1) := by decide +kernel
theorem dX12_nextPlan_60 : decode cX12_nextPlan 60 = .ok (.iadd, 1) := by decide +kernel
theorem dX12_nextPlan_61 : decode cX12_nextPlan 61 = .ok (.iaload, 1) := by decide +kernel
theorem dX12_nextPlan_62 : decode cX12_nextPlan 62 = .ok (.if_icmp .ge 5, 3) := by decide +kernel
theorem dX12_nextPlan_65 : decode cX12_nextPlan 65 = .ok (.iconst 1, 1) := by decide +kernel
theorem dX12_nextPlan_66 : decode cX12_nextPlan 66 = .ok (.ireturn, 1) := by decide +kernel
theorem dX12_nextPlan_67 : decode cX12_nextPlan 67 = .ok (.aload_n 0, 1) := by decide +kernel
theorem dX12_nextPlan_68 : decode cX12_nextPlan 68 = .ok (.getfield 40, 3) := by decide +kernel
theorem dX12_nextPlan_71 : decode cX12_nextPlan 71 = .ok (.iload_n 2, 1) := by decide +kernel
theorem dX12_nextPlan_72 : decode cX12_nextPlan 72 = .ok (.iconst 0, 1) := by decide +kernel
theorem dX12_nextPlan_73 : decode cX12_nextPlan 73 = .ok (.iastore, 1) := by decide +kernel
theorem dX12_nextPlan_74 : decode cX12_nextPlan 74 = .ok (.iinc 2 (-1), 3) := by decide +kernel
theorem dX12_nextPlan_77 : decode cX12_nextPlan 77 = .ok (.goto (-68), 3) := by decide +kernel
theorem dX12_nextPlan_80 : decode cX12_nextPlan 80 = .ok (.iconst 0, 1) := by decide +kernel
theorem dX12_nextPlan_81 : decode cX12_nextPlan 81 = .ok (.ireturn, 1) := by decide +kernel
theorem tl_cmpgt {x y : Int64} {v : Int32} (hv : v = lg_cmp x y) (h : ¬ v ≤ 0) : y.toInt < x.toInt := by
  rw [hv] at h
  unfold lg_cmp at h
  by_cases q : x > y
  · exact Int64.lt_iff_toInt_lt.mp q
  · rw [if_neg q] at h
    by_cases q2 : x = y
    · rw [if_pos q2] at h; exact absurd (by decide) h
    · rw [if_neg q2] at h; exact absurd (by decide) h
theorem tl_cmple {x y : Int64} {v : Int32} (hv : v = lg_cmp x y) (h : v ≤ 0) : x.toInt ≤ y.toInt := by
  rw [hv] at h
  unfold lg_cmp at h
  by_cases q : x > y
  · rw [if_pos q] at h; exact absurd h (by decide)
  · exact Int.not_lt.mp fun z => q (Int64.lt_iff_toInt_lt.mpr z)
set_option maxHeartbeats 4000000 in
set_option maxRecDepth 100000 in
theorem c_X12_isMore (l : Launch) (D : va_G) (g : Nat → ClassId) (a0 : Int64) (b0 : Int64) (c0 : Int64) (d0 : Int64) : Met l yX12_isMore (.code yX12_isMore cX12_isMore 8 (some .boolean) :: wsL_law) ({ frames := 0, cells := 0, slots := 0, locals := 0 }) (va_Pc [.long a0, .long b0, .long c0, .long d0] (fun U => va_P D vwCl [] U.heap ∧ va_K D vwCl (TY g) U)) (vp_Si (fun r => (0 ≤ (r : Int32).toInt ∧ (r : Int32).toInt ≤ 1) ∧ (Hide (¬ (r : Int32).toInt = 0 → ((c0 : Int64) * (b0 : Int64)).toInt < ((a0 : Int64) * (d0 : Int64)).toInt)) ∧ (Hide ((r : Int32).toInt = 0 → ((a0 : Int64) * (d0 : Int64)).toInt ≤ ((c0 : Int64) * (b0 : Int64)).toInt)))) 0 0 (fun _ => False) := by
  refine Met.ofW (cc := cX12_isMore) (maxL := 8) (ret := (some .boolean)) (by decide) rfl ?_
  intro p e s m args below meth c s₁ B hml hv
  obtain ⟨ha, hP, hK⟩ := hv
  have hx := B.exec
  have hb := B.bytes
  have hr := B.returns
  have hts0 := atoms_spec (ws := (.code yX12_isMore cX12_isMore 8 (some .boolean) :: wsL_law)) B.pre
  have hts : ∀ w ∈ wsL_law, w.before args s = true := fun w h => hts0 w (List.mem_cons_of_mem _ h)
  have hown : s.vm.findClass RX12 = some m.cls := findClass_of_methodNamed B.named
  have hlocks := B.notSynchronized
  have hP : va_P D vwCl [] s.heap := hP
  refine W.eq (g2 := entryFrame m ([.long a0, .long b0, .long c0, .long d0] : List Value).toArray 8) (by rw [ha]) ?_
  have hl := lv_entry ([.long a0, .long b0, .long c0, .long d0]) (n := 8) (Nat.le_of_ble_eq_true rfl)
  rw [lg_entry_eq]
  generalize (lg_sl ([.long a0, .long b0, .long c0, .long d0]) ++ List.replicate (8 - (lg_sl ([.long a0, .long b0, .long c0, .long d0])).length) Slot.unset).toArray = ls at hl ⊢
  have hl : lv_has ls 8 [(0, .long a0), (2, .long b0), (4, .long c0), (6, .long d0)] := hl
  refine lv_lload_n hx hb dX12_isMore_0 rfl (lv_at hl 0 rfl) ?_
  refine lv_lload hx hb dX12_isMore_1 (lv_at hl 3 rfl) ?_
  refine lv_lmul hx hb dX12_isMore_3 ?_
  refine lv_topl (fun w_40344 w_40344_e => ?_)
  refine lv_lload hx hb dX12_isMore_4 (lv_at hl 2 rfl) ?_
  refine lv_lload_n hx hb dX12_isMore_6 rfl (lv_at hl 1 rfl) ?_
  refine lv_lmul hx hb dX12_isMore_7 ?_
  refine lv_topl (fun w_40345 w_40345_e => ?_)
  refine W.lcmp hx hb dX12_isMore_8 ?_
  refine lv_topi (fun v_40346 v_40346_e => ?_)
  have h_v_40346 : (-1) ≤ (v_40346 : Int32).toInt ∧ (v_40346 : Int32).toInt ≤ 1 := by rw [v_40346_e]; exact tr_cmp _ _
  refine lv_if_le (tgt := 16) hx hb dX12_isMore_9 (by decide) (fun c_40347 => ?_) (fun c_40347 => ?_)
  · skip
    have c_40347_i := Int32.le_iff_toInt_le.mp c_40347
    have h_40348 : (-1) ≤ (v_40346 : Int32).toInt ∧ (v_40346 : Int32).toInt ≤ 0 := nr_le_l h_v_40346 (⟨by decide, by decide⟩ : 0 ≤ (0 : Int32).toInt ∧ (0 : Int32).toInt ≤ 0) c_40347_i (by decide) (by decide)
    refine lv_iconst (v := 0) hx hb dX12_isMore_16 (by decide) ?_
    exact W.zret (v := 0) hx hb hr (by decide) (fun t ht hW => ⟨0, rfl, ⟨(⟨by decide, by decide⟩ : 0 ≤ (0 : Int32).toInt ∧ (0 : Int32).toInt ≤ 1), (fun h9 => absurd h9 (by decide)), (fun _ => by rw [← w_40344_e, ← w_40345_e]; exact tl_cmple v_40346_e c_40347)⟩, ht⟩) (fun _ h => nomatch h) dX12_isMore_17
  · skip
    have c_40347_i := Int32.lt_iff_toInt_lt.mp (Int32.not_le.mp c_40347)
    have h_40349 : 1 ≤ (v_40346 : Int32).toInt ∧ (v_40346 : Int32).toInt ≤ 1 := nr_lt_r (⟨by decide, by decide⟩ : 0 ≤ (0 : Int32).toInt ∧ (0 : Int32).toInt ≤ 0) h_v_40346 c_40347_i (by decide) (by decide)
    refine lv_iconst (v := 1) hx hb dX12_isMore_12 (by decide) ?_
    refine lv_goto (tgt := 17) hx hb dX12_isMore_13 (by decide) ?_
    exact W.zret (v := 1) hx hb hr (by decide) (fun t ht hW => ⟨1, rfl, ⟨(⟨by decide, by decide⟩ : 0 ≤ (1 : Int32).toInt ∧ (1 : Int32).toInt ≤ 1), (fun _ => by rw [← w_40344_e, ← w_40345_e]; exact tl_cmpgt v_40346_e c_40347), (fun h9 => absurd h9 (by decide))⟩, ht⟩) (fun _ h => nomatch h) dX12_isMore_17
set_option maxHeartbeats 4000000 in
set_option maxRecDepth 100000 in
theorem c_X12_firstPlan1 (l : Launch) (D : va_G) (g : Nat → ClassId) (sz : Nat) (mm : Nat) (i_thrown : Int32) (m_s : Nat) (m_spare : Nat) (m_kept : Nat) (m_undone : Nat) (m_triedWay : Nat) (m_isKept : Nat) (i_undoMany : Int32) (m_tape : Nat) (i_length : Int32) (i_size : Int32) (i_p : Int32) (i_at : Int32) (i_token : Int32) (i_number : Int32) (i_letterMany : Int32) (i_fault : Int32) (i_faultAt : Int32) (m_letters : Nat) (i_isKnown : Int32) (m_choice : Nat) (m_row : Nat) (m_up : Nat) (m_low : Nat) (m_m : Nat) (m_bestUp : Nat) (m_bestLow : Nat) (m_replyUp : Nat) (m_replyLow : Nat) (m_worthUp : Nat) (m_worthLow : Nat) (m_bestWay : Nat) (i_seed : Int32) (m_told : Nat) (i_toldMany : Int32) (sf : Nat → Int32) (chf : Nat → Int32) (h_i_undoMany : 0 ≤ (i_undoMany : Int32).toInt ∧ (i_undoMany : Int32).toInt ≤ 8) (h_i_length : 0 ≤ (i_length : Int32).toInt ∧ (i_length : Int32).toInt ≤ 440) (h_i_size : 0 ≤ (i_size : Int32).toInt ∧ (i_size : Int32).toInt ≤ 440) (h_i_p : 0 ≤ (i_p : Int32).toInt ∧ (i_p : Int32).toInt ≤ 440) (h_i_at : 0 ≤ (i_at : Int32).toInt ∧ (i_at : Int32).toInt ≤ 440) (h_i_token : 0 ≤ (i_token : Int32).toInt ∧ (i_token : Int32).toInt ≤ 4) (h_i_number : 0 ≤ (i_number : Int32).toInt ∧ (i_number : Int32).toInt ≤ 814) (h_i_letterMany : (-440) ≤ (i_letterMany : Int32).toInt ∧ (i_letterMany : Int32).toInt ≤ 440) (h_i_faultAt : 0 ≤ (i_faultAt : Int32).toInt ∧ (i_faultAt : Int32).toInt ≤ 440) (h_i_isKnown : 0 ≤ (i_isKnown : Int32).toInt ∧ (i_isKnown : Int32).toInt ≤ 1) (h_i_toldMany : 0 ≤ (i_toldMany : Int32).toInt ∧ (i_toldMany : Int32).toInt ≤ 900) (h_chf : ∀ j : Nat, 0 ≤ (chf j).toInt ∧ (chf j).toInt ≤ 2) (hG : GS sf) : Met l yX12_firstPlan (.code yX12_firstPlan cX12_firstPlan 3 none :: wsL_law) ({ frames := 1, cells := 0, slots := 0, locals := 22 }) (va_Pc [.ref mm, .int 1] (fun U => U.heap.size = sz ∧ va_P D vwCl [(mm, .inr (12, (.int i_thrown :: .ref m_s :: .ref m_spare :: .ref m_kept :: .ref m_undone :: .ref m_triedWay :: .ref m_isKept :: .int i_undoMany :: .ref m_tape :: .int i_length :: .int i_size :: .int i_p :: .int i_at :: .int i_token :: .int i_number :: .int i_letterMany :: .int i_fault :: .int i_faultAt :: .ref m_letters :: .int i_isKnown :: .ref m_choice :: .ref m_row :: .ref m_up :: .ref m_low :: .ref m_m :: .ref m_bestUp :: .ref m_bestLow :: .ref m_replyUp :: .ref m_replyLow :: .ref m_worthUp :: .ref m_worthLow :: .ref m_bestWay :: .int i_seed :: .ref m_told :: .int i_toldMany :: []))), (m_s, .inl (g 0, 193, .inl sf)), (m_choice, .inl (g 0, 12, .inl chf))] U.heap ∧ va_K D vwCl (TY g) U ∧ va_D (fun _ => True) [(mm, .inr (12, (.int i_thrown :: .ref m_s :: .ref m_spare :: .ref m_kept :: .ref m_undone :: .ref m_triedWay :: .ref m_isKept :: .int i_undoMany :: .ref m_tape :: .int i_length :: .int i_size :: .int i_p :: .int i_at :: .int i_token :: .int i_number :: .int i_letterMany :: .int i_fault :: .int i_faultAt :: .ref m_letters :: .int i_isKnown :: .ref m_choice :: .ref m_row :: .ref m_up :: .ref m_low :: .ref m_m :: .ref m_bestUp :: .ref m_bestLow :: .ref m_replyUp :: .ref m_replyLow :: .ref m_worthUp :: .ref m_worthLow :: .ref m_bestWay :: .int i_seed :: .ref m_told :: .int i_toldMany :: []))), (m_s, .inl (g 0, 193, .inl sf)), (m_choice, .inl (g 0, 12, .inl chf))])) (va_Qv (fun (_ : Unit) => True) (fun _ t => ∃ ochf : Nat → Int32, (∀ j : Nat, 0 ≤ (ochf j).toInt ∧ (ochf j).toInt ≤ 2) ∧ (LGd sf 1 ochf) ∧ (OTH sf 1 chf ochf) ∧ (NUM sf 1 ochf (sf 0).toInt.toNat = 0) ∧ va_P D vwCl [(mm, .inr (12, (.int i_thrown :: .ref m_s :: .ref m_spare :: .ref m_kept :: .ref m_undone :: .ref m_triedWay :: .ref m_isKept :: .int i_undoMany :: .ref m_tape :: .int i_length :: .int i_size :: .int i_p :: .int i_at :: .int i_token :: .int i_number :: .int i_letterMany :: .int i_fault :: .int i_faultAt :: .ref m_letters :: .int i_isKnown :: .ref m_choice :: .ref m_row :: .ref m_up :: .ref m_low :: .ref m_m :: .ref m_bestUp :: .ref m_bestLow :: .ref m_replyUp :: .ref m_replyLow :: .ref m_worthUp :: .ref m_worthLow :: .ref m_bestWay :: .int i_seed :: .ref m_told :: .int i_toldMany :: []))), (m_s, .inl (g 0, 193, .inl sf)), (m_choice, .inl (g 0, 12, .inl ochf))] t.heap ∧ va_D (va_A [(mm, .inr (12, (.int i_thrown :: .ref m_s :: .ref m_spare :: .ref m_kept :: .ref m_undone :: .ref m_triedWay :: .ref m_isKept :: .int i_undoMany :: .ref m_tape :: .int i_length :: .int i_size :: .int i_p :: .int i_at :: .int i_token :: .int i_number :: .int i_letterMany :: .int i_fault :: .int i_faultAt :: .ref m_letters :: .int i_isKnown :: .ref m_choice :: .ref m_row :: .ref m_up :: .ref m_low :: .ref m_m :: .ref m_bestUp :: .ref m_bestLow :: .ref m_replyUp :: .ref m_replyLow :: .ref m_worthUp :: .ref m_worthLow :: .ref m_bestWay :: .int i_seed :: .ref m_told :: .int i_toldMany :: []))), (m_s, .inl (g 0, 193, .inl sf)), (m_choice, .inl (g 0, 12, .inl chf))] sz) [(mm, .inr (12, (.int i_thrown :: .ref m_s :: .ref m_spare :: .ref m_kept :: .ref m_undone :: .ref m_triedWay :: .ref m_isKept :: .int i_undoMany :: .ref m_tape :: .int i_length :: .int i_size :: .int i_p :: .int i_at :: .int i_token :: .int i_number :: .int i_letterMany :: .int i_fault :: .int i_faultAt :: .ref m_letters :: .int i_isKnown :: .ref m_choice :: .ref m_row :: .ref m_up :: .ref m_low :: .ref m_m :: .ref m_bestUp :: .ref m_bestLow :: .ref m_replyUp :: .ref m_replyLow :: .ref m_worthUp :: .ref m_worthLow :: .ref m_bestWay :: .int i_seed :: .ref m_told :: .int i_toldMany :: []))), (m_s, .inl (g 0, 193, .inl sf)), (m_choice, .inl (g 0, 12, .inl ochf))]) (va_A [(mm, .inr (12, (.int i_thrown :: .ref m_s :: .ref m_spare :: .ref m_kept :: .ref m_undone :: .ref m_triedWay :: .ref m_isKept :: .int i_undoMany :: .ref m_tape :: .int i_length :: .int i_size :: .int i_p :: .int i_at :: .int i_token :: .int i_number :: .int i_letterMany :: .int i_fault :: .int i_faultAt :: .ref m_letters :: .int i_isKnown :: .ref m_choice :: .ref m_row :: .ref m_up :: .ref m_low :: .ref m_m :: .ref m_bestUp :: .ref m_bestLow :: .ref m_replyUp :: .ref m_replyLow :: .ref m_worthUp :: .ref m_worthLow :: .ref m_bestWay :: .int i_seed :: .ref m_told :: .int i_toldMany :: []))), (m_s, .inl (g 0, 193, .inl sf)), (m_choice, .inl (g 0, 12, .inl chf))] sz)) 0 0 (va_A [(mm, .inr (12, (.int i_thrown :: .ref m_s :: .ref m_spare :: .ref m_kept :: .ref m_undone :: .ref m_triedWay :: .ref m_isKept :: .int i_undoMany :: .ref m_tape :: .int i_length :: .int i_size :: .int i_p :: .int i_at :: .int i_token :: .int i_number :: .int i_letterMany :: .int i_fault :: .int i_faultAt :: .ref m_letters :: .int i_isKnown :: .ref m_choice :: .ref m_row :: .ref m_up :: .ref m_low :: .ref m_m :: .ref m_bestUp :: .ref m_bestLow :: .ref m_replyUp :: .ref m_replyLow :: .ref m_worthUp :: .ref m_worthLow :: .ref m_bestWay :: .int i_seed :: .ref m_told :: .int i_toldMany :: []))), (m_s, .inl (g 0, 193, .inl sf)), (m_choice, .inl (g 0, 12, .inl chf))] sz) := by
  refine Met.ofW (cc := cX12_firstPlan) (maxL := 3) (ret := none) (by decide) rfl ?_
  intro p e s m args below meth c s₁ B hml hv
  obtain ⟨ha, hsz, hP, hK, hD0⟩ := hv
  have hx := B.exec
  have hb := B.bytes
  have hr := B.returns
  have hts0 := atoms_spec (ws := (.code yX12_firstPlan cX12_firstPlan 3 none :: wsL_law)) B.pre
  have hts : ∀ w ∈ wsL_law, w.before args s = true := fun w h => hts0 w (List.mem_cons_of_mem _ h)
  have hown : s.vm.findClass RX12 = some m.cls := findClass_of_methodNamed B.named
  have hlocks := B.notSynchronized
  subst hsz
  have hD := hD0.self (sz := s.heap.size)
  generalize hAe : va_A [(mm, .inr (12, (.int i_thrown :: .ref m_s :: .ref m_spare :: .ref m_kept :: .ref m_undone :: .ref m_triedWay :: .ref m_isKept :: .int i_undoMany :: .ref m_tape :: .int i_length :: .int i_size :: .int i_p :: .int i_at :: .int i_token :: .int i_number :: .int i_letterMany :: .int i_fault :: .int i_faultAt :: .ref m_letters :: .int i_isKnown :: .ref m_choice :: .ref m_row :: .ref m_up :: .ref m_low :: .ref m_m :: .ref m_bestUp :: .ref m_bestLow :: .ref m_replyUp :: .ref m_replyLow :: .ref m_worthUp :: .ref m_worthLow :: .ref m_bestWay :: .int i_seed :: .ref m_told :: .int i_toldMany :: []))), (m_s, .inl (g 0, 193, .inl sf)), (m_choice, .inl (g 0, 12, .inl chf))] s.heap.size = A at hD ⊢
  have hA : ∀ q : Nat, s.heap.size ≤ q → A q := fun q h => by rw [← hAe]; exact Or.inr h
  have hS : va_S A s.heap s.heap [] := va_S.rf
  have hP : va_P D vwCl [(mm, .inr (12, (.int i_thrown :: .ref m_s :: .ref m_spare :: .ref m_kept :: .ref m_undone :: .ref m_triedWay :: .ref m_isKept :: .int i_undoMany :: .ref m_tape :: .int i_length :: .int i_size :: .int i_p :: .int i_at :: .int i_token :: .int i_number :: .int i_letterMany :: .int i_fault :: .int i_faultAt :: .ref m_letters :: .int i_isKnown :: .ref m_choice :: .ref m_row :: .ref m_up :: .ref m_low :: .ref m_m :: .ref m_bestUp :: .ref m_bestLow :: .ref m_replyUp :: .ref m_replyLow :: .ref m_worthUp :: .ref m_worthLow :: .ref m_bestWay :: .int i_seed :: .ref m_told :: .int i_toldMany :: []))), (m_s, .inl (g 0, 193, .inl sf)), (m_choice, .inl (g 0, 12, .inl chf))] s.heap := hP
  refine W.eq (g2 := entryFrame m ([.ref mm, .int 1] : List Value).toArray 3) (by rw [ha]) ?_
  have hl := lv_entry ([.ref mm, .int 1]) (n := 3) (Nat.le_of_ble_eq_true rfl)
  rw [lg_entry_eq]
  generalize (lg_sl ([.ref mm, .int 1]) ++ List.replicate (3 - (lg_sl ([.ref mm, .int 1])).length) Slot.unset).toArray = ls at hl ⊢
  have hl : lv_has ls 3 [(0, .ref mm), (1, .int 1)] := hl
  have gn9 := hG.r.1
  refine lv_iconst (v := 0) hx hb dX12_firstPlan_0 (by decide) ?_
  refine lv_istore_n (lv' := [(2, .int 0), (0, .ref mm), (1, .int 1)]) hx hb dX12_firstPlan_1 rfl hl (by decide) rfl (fun ls hl => ?_)
  have lp_40395 : ∀ (n_40395 : Nat) (x_40393 : Int32) (f_40394 : Nat → Int32) (H : Heap) (locs : List Loc) (ls : Array Slot), (0 ≤ (x_40393 : Int32).toInt ∧ (x_40393 : Int32).toInt ≤ 12) → (∀ j : Nat, 0 ≤ (f_40394 j).toInt ∧ (f_40394 j).toInt ≤ 2) → (FPi sf 1 chf f_40394 x_40393.toInt.toNat) → (x_40393.toInt ≤ (sf 0).toInt) → (12 - x_40393.toInt < (n_40395 : Int)) → va_P D vwCl [(mm, .inr (12, (.int i_thrown :: .ref m_s :: .ref m_spare :: .ref m_kept :: .ref m_undone :: .ref m_triedWay :: .ref m_isKept :: .int i_undoMany :: .ref m_tape :: .int i_length :: .int i_size :: .int i_p :: .int i_at :: .int i_token :: .int i_number :: .int i_letterMany :: .int i_fault :: .int i_faultAt :: .ref m_letters :: .int i_isKnown :: .ref m_choice :: .ref m_row :: .ref m_up :: .ref m_low :: .ref m_m :: .ref m_bestUp :: .ref m_bestLow :: .ref m_replyUp :: .ref m_replyLow :: .ref m_worthUp :: .ref m_worthLow :: .ref m_bestWay :: .int i_seed :: .ref m_told :: .int i_toldMany :: []))), (m_s, .inl (g 0, 193, .inl sf)), (m_choice, .inl (g 0, 12, .inl f_40394))] H → va_D A [(mm, .inr (12, (.int i_thrown :: .ref m_s :: .ref m_spare :: .ref m_kept :: .ref m_undone :: .ref m_triedWay :: .ref m_isKept :: .int i_undoMany :: .ref m_tape :: .int i_length :: .int i_size :: .int i_p :: .int i_at :: .int i_token :: .int i_number :: .int i_letterMany :: .int i_fault :: .int i_faultAt :: .ref m_letters :: .int i_isKnown :: .ref m_choice :: .ref m_row :: .ref m_up :: .ref m_low :: .ref m_m :: .ref m_bestUp :: .ref m_bestLow :: .ref m_replyUp :: .ref m_replyLow :: .ref m_worthUp :: .ref m_worthLow :: .ref m_bestWay :: .int i_seed :: .ref m_told :: .int i_toldMany :: []))), (m_s, .inl (g 0, 193, .inl sf)), (m_choice, .inl (g 0, 12, .inl f_40394))] → va_S A s.heap H locs → lv_has ls 3 [(2, .int x_40393), (0, .ref mm), (1, .int 1)] → W p l e (headSpec (.code yX12_firstPlan cX12_firstPlan 3 none :: wsL_law) ({ frames := 1, cells := 0, slots := 0, locals := 22 })).room s m args below meth c H locs 0 0 (MQ below (va_Qv (fun (_ : Unit) => True) (fun _ t => ∃ ochf : Nat → Int32, (∀ j : Nat, 0 ≤ (ochf j).toInt ∧ (ochf j).toInt ≤ 2) ∧ (LGd sf 1 ochf) ∧ (OTH sf 1 chf ochf) ∧ (NUM sf 1 ochf (sf 0).toInt.toNat = 0) ∧ va_P D vwCl [(mm, .inr (12, (.int i_thrown :: .ref m_s :: .ref m_spare :: .ref m_kept :: .ref m_undone :: .ref m_triedWay :: .ref m_isKept :: .int i_undoMany :: .ref m_tape :: .int i_length :: .int i_size :: .int i_p :: .int i_at :: .int i_token :: .int i_number :: .int i_letterMany :: .int i_fault :: .int i_faultAt :: .ref m_letters :: .int i_isKnown :: .ref m_choice :: .ref m_row :: .ref m_up :: .ref m_low :: .ref m_m :: .ref m_bestUp :: .ref m_bestLow :: .ref m_replyUp :: .ref m_replyLow :: .ref m_worthUp :: .ref m_worthLow :: .ref m_bestWay :: .int i_seed :: .ref m_told :: .int i_toldMany :: []))), (m_s, .inl (g 0, 193, .inl sf)), (m_choice, .inl (g 0, 12, .inl ochf))] t.heap ∧ va_D A [(mm, .inr (12, (.int i_thrown :: .ref m_s :: .ref m_spare :: .ref m_kept :: .ref m_undone :: .ref m_triedWay :: .ref m_isKept :: .int i_undoMany :: .ref m_tape :: .int i_length :: .int i_size :: .int i_p :: .int i_at :: .int i_token :: .int i_number :: .int i_letterMany :: .int i_fault :: .int i_faultAt :: .ref m_letters :: .int i_isKnown :: .ref m_choice :: .ref m_row :: .ref m_up :: .ref m_low :: .ref m_m :: .ref m_bestUp :: .ref m_bestLow :: .ref m_replyUp :: .ref m_replyLow :: .ref m_worthUp :: .ref m_worthLow :: .ref m_bestWay :: .int i_seed :: .ref m_told :: .int i_toldMany :: []))), (m_s, .inl (g 0, 193, .inl sf)), (m_choice, .inl (g 0, 12, .inl ochf))]) A) args s 0 0 A) (F0 m 2 ls []) := by
    intro n_40395
    induction n_40395 with
    | zero =>
      intro x_40393 f_40394 H locs ls h_x_40393 h_f_40394 hr40395_0 hr40395_1 hm_40395 hP hD hS hl
      exfalso; omega
    | succ n_40395 ih_40395 =>
      intro x_40393 f_40394 H locs ls h_x_40393 h_f_40394 hr40395_0 hr40395_1 hm_40395 hP hD hS hl
      refine lv_iload_n hx hb dX12_firstPlan_2 rfl (lv_at hl 0 rfl) ?_
      refine lv_aload_n hx hb dX12_firstPlan_3 rfl (lv_at hl 1 rfl) ?_
      refine va_get (D := D) (ci := 12) (v := .ref m_s) (C := RX12) (T := TX12) (N := 35) hx hb hts inlX12 hown hK hP 0 rfl rfl 1 (by decide) (hts (Cond.fieldLink RX12 13 "ChanceRingsModel" "s" "[I") qw_73) (fun _ h9 => h9) rfl dX12_firstPlan_4 ?_
      refine lv_iconst (v := 0) hx hb dX12_firstPlan_7 (by decide) ?_
      refine va_iald hx hb hK hP 1 0 rfl rfl (tz_in (by decide +kernel)) dX12_firstPlan_8 ?_
      refine lv_topi (fun v_40396 v_40396_e => ?_)
      have h_v_40396 : 0 ≤ (v_40396 : Int32).toInt ∧ (v_40396 : Int32).toInt ≤ 12 := by rw [v_40396_e]; exact gr_nodes hG.r (⟨by decide, by decide⟩ : 0 ≤ (0 : Int32).toInt ∧ (0 : Int32).toInt ≤ 0)
      have g_v_40396 : v_40396 = sf (0) := v_40396_e.trans (congrArg sf rfl)
      have gi_v_40396 := congrArg Int32.toInt g_v_40396
      refine lv_icmp_ge (tgt := 58) hx hb dX12_firstPlan_9 (by decide) (fun c_40397 => ?_) (fun c_40397 => ?_)
      · skip
        have c_40397_i := Int32.le_iff_toInt_le.mp c_40397
        have hP9 := hP.sub (ws' := [(mm, .inr (12, (.int i_thrown :: .ref m_s :: .ref m_spare :: .ref m_kept :: .ref m_undone :: .ref m_triedWay :: .ref m_isKept :: .int i_undoMany :: .ref m_tape :: .int i_length :: .int i_size :: .int i_p :: .int i_at :: .int i_token :: .int i_number :: .int i_letterMany :: .int i_fault :: .int i_faultAt :: .ref m_letters :: .int i_isKnown :: .ref m_choice :: .ref m_row :: .ref m_up :: .ref m_low :: .ref m_m :: .ref m_bestUp :: .ref m_bestLow :: .ref m_replyUp :: .ref m_replyLow :: .ref m_worthUp :: .ref m_worthLow :: .ref m_bestWay :: .int i_seed :: .ref m_told :: .int i_toldMany :: []))), (m_s, .inl (g 0, 193, .inl sf)), (m_choice, .inl (g 0, 12, .inl f_40394))]) [0, 1, 2] rfl
        have hD9 := hD.sub (ws' := [(mm, .inr (12, (.int i_thrown :: .ref m_s :: .ref m_spare :: .ref m_kept :: .ref m_undone :: .ref m_triedWay :: .ref m_isKept :: .int i_undoMany :: .ref m_tape :: .int i_length :: .int i_size :: .int i_p :: .int i_at :: .int i_token :: .int i_number :: .int i_letterMany :: .int i_fault :: .int i_faultAt :: .ref m_letters :: .int i_isKnown :: .ref m_choice :: .ref m_row :: .ref m_up :: .ref m_low :: .ref m_m :: .ref m_bestUp :: .ref m_bestLow :: .ref m_replyUp :: .ref m_replyLow :: .ref m_worthUp :: .ref m_worthLow :: .ref m_bestWay :: .int i_seed :: .ref m_told :: .int i_toldMany :: []))), (m_s, .inl (g 0, 193, .inl sf)), (m_choice, .inl (g 0, 12, .inl f_40394))]) [0, 1, 2] (by decide) rfl
        exact W.vret hx hb hr (fun t ht hW => ⟨⟨(), rfl, trivial, f_40394, (tr_wa h_f_40394 (by decide) (by decide)), (FPi_done hG (by decide) hr40395_0 (by (first | (clear h_i_undoMany h_i_length h_i_size h_i_p h_i_at h_i_token h_i_number h_i_letterMany h_i_faultAt h_i_isKnown h_i_toldMany h_x_40393 h_v_40396 g_v_40396 gi_v_40396 c_40397_i; omega) | omega))).1, (FPi_done hG (by decide) hr40395_0 (by (first | (clear h_i_undoMany h_i_length h_i_size h_i_p h_i_at h_i_token h_i_number h_i_letterMany h_i_faultAt h_i_isKnown h_i_toldMany h_x_40393 h_v_40396 g_v_40396 gi_v_40396 c_40397_i; omega) | omega))).2.1, (FPi_done hG (by decide) hr40395_0 (by (first | (clear h_i_undoMany h_i_length h_i_size h_i_p h_i_at h_i_token h_i_number h_i_letterMany h_i_faultAt h_i_isKnown h_i_toldMany h_x_40393 h_v_40396 g_v_40396 gi_v_40396 c_40397_i; omega) | omega))).2.2, by rw [ht]; exact hP9, hD9⟩, hS.F ht⟩) hS.2.2 dX12_firstPlan_58
      · skip
        have c_40397_i := Int32.lt_iff_toInt_lt.mp (Int32.not_le.mp c_40397)
        have h_40398 : 0 ≤ (x_40393 : Int32).toInt ∧ (x_40393 : Int32).toInt ≤ 11 := nr_lt_l h_x_40393 h_v_40396 c_40397_i (by decide) (by decide)
        have h_40399 : 1 ≤ (v_40396 : Int32).toInt ∧ (v_40396 : Int32).toInt ≤ 12 := nr_lt_r h_x_40393 h_v_40396 c_40397_i (by decide) (by decide)
        refine lv_aload_n hx hb dX12_firstPlan_12 rfl (lv_at hl 1 rfl) ?_
        refine lv_iload_n hx hb dX12_firstPlan_13 rfl (lv_at hl 0 rfl) ?_
        refine lv_iload_n hx hb dX12_firstPlan_14 rfl (lv_at hl 2 rfl) ?_
        have hPc := hP.sub (ws' := [(mm, .inr (12, (.int i_thrown :: .ref m_s :: .ref m_spare :: .ref m_kept :: .ref m_undone :: .ref m_triedWay :: .ref m_isKept :: .int i_undoMany :: .ref m_tape :: .int i_length :: .int i_size :: .int i_p :: .int i_at :: .int i_token :: .int i_number :: .int i_letterMany :: .int i_fault :: .int i_faultAt :: .ref m_letters :: .int i_isKnown :: .ref m_choice :: .ref m_row :: .ref m_up :: .ref m_low :: .ref m_m :: .ref m_bestUp :: .ref m_bestLow :: .ref m_replyUp :: .ref m_replyLow :: .ref m_worthUp :: .ref m_worthLow :: .ref m_bestWay :: .int i_seed :: .ref m_told :: .int i_toldMany :: []))), (m_s, .inl (g 0, 193, .inl sf))]) [0, 1] rfl
        refine vp_callSi (va_Run.run (va_runV (As := [.int x_40393, .int 1]) (rest := []) ⟨hx, hb, hml, hown, hts⟩ (c_X12_isKind l D g mm x_40393 1 i_thrown m_s m_spare m_kept m_undone m_triedWay m_isKept i_undoMany m_tape i_length i_size i_p i_at i_token i_number i_letterMany i_fault i_faultAt m_letters i_isKnown m_choice m_row m_up m_low m_m m_bestUp m_bestLow m_replyUp m_replyLow m_worthUp m_worthLow m_bestWay i_seed m_told i_toldMany sf (tr_w h_40398 (by decide) (by decide)) (tr_w h_i_undoMany (by decide) (by decide)) (tr_w h_i_length (by decide) (by decide)) (tr_w h_i_size (by decide) (by decide)) (tr_w h_i_p (by decide) (by decide)) (tr_w h_i_at (by decide) (by decide)) (tr_w h_i_token (by decide) (by decide)) (tr_w h_i_number (by decide) (by decide)) (tr_w h_i_letterMany (by decide) (by decide)) (tr_w h_i_faultAt (by decide) (by decide)) (tr_w h_i_isKnown (by decide) (by decide)) (tr_w h_i_toldMany (by decide) (by decide)) hG) (cwV 2 hts (tz_gV qw_94 qw_95 qw_96 qw_3 qw_97) rfl rfl rfl (by decide +kernel) ⟨Nat.le_of_ble_eq_true rfl, Nat.le_of_ble_eq_true rfl⟩) ⟨tz_blS, va_recv hK hPc (ci := 12) (q0 := 0) rfl rfl, tz_preS hPc hK⟩ rfl rfl hl.1 rfl (lv_room (Nat.le_of_ble_eq_true rfl)) dX12_firstPlan_15 ⟨Nat.le_of_ble_eq_true rfl, Nat.le_of_ble_eq_true rfl⟩)) (fun r_40400 hw => ?_)
        have kk_1 := tk_1
        have hw_40401 : 0 ≤ (r_40400 : Int32).toInt ∧ (r_40400 : Int32).toInt ≤ 1 := hw.1
        have hw_40401_p0 : Hide (¬ (r_40400 : Int32).toInt = 0 → (sf (1 + (x_40393 : Int32).toInt.toNat)).toInt = (1 : Int32).toInt) := hw.2.1
        have hw_40401_p1 : Hide ((r_40400 : Int32).toInt = 0 → ¬ (sf (1 + (x_40393 : Int32).toInt.toNat)).toInt = (1 : Int32).toInt) := hw.2.2
        refine lv_if_eq (tgt := 52) hx hb dX12_firstPlan_18 (by decide) (fun c_40402 => ?_) (fun c_40402 => ?_)
        · skip
          have kk_0 := tk_0
          have c_40402_i : (r_40400 : Int32).toInt = (0 : Int32).toInt := congrArg Int32.toInt c_40402
          have hw_40401_p1_u := (hw_40401_p1).get (c_40402_i.trans tk_0)
          have h_40403 : 0 ≤ (r_40400 : Int32).toInt ∧ (r_40400 : Int32).toInt ≤ 0 := nr_eq_l hw_40401 (⟨by decide, by decide⟩ : 0 ≤ (0 : Int32).toInt ∧ (0 : Int32).toInt ≤ 0) c_40402_i (by decide) (by decide)
          obtain ⟨v_40405, v_40405_e⟩ : ∃ y : Int32, y = x_40393 + Int32.ofInt 1 := ⟨_, rfl⟩
          have h_v_40405 : 1 ≤ (v_40405 : Int32).toInt ∧ (v_40405 : Int32).toInt ≤ 12 := by rw [v_40405_e]; exact tr_add h_40398 (⟨by decide, by decide⟩ : 1 ≤ (Int32.ofInt 1 : Int32).toInt ∧ (Int32.ofInt 1 : Int32).toInt ≤ 1) (by decide) (by decide) (by decide) (by decide)
          have q_v_40405 : v_40405.toInt = x_40393.toInt + 1 := by rw [v_40405_e]; exact tr_addE h_40398 (⟨by decide, by decide⟩ : 1 ≤ (Int32.ofInt 1 : Int32).toInt ∧ (Int32.ofInt 1 : Int32).toInt ≤ 1) (by decide) (by decide)
          refine lv_iinc (v := v_40405) (lv' := [(2, .int v_40405), (0, .ref mm), (1, .int 1)]) hx hb dX12_firstPlan_52 hl (k := 0) rfl v_40405_e.symm (by decide) rfl (fun ls hl => ?_)
          refine lv_goto (tgt := 2) hx hb dX12_firstPlan_55 (by decide) ?_
          exact ih_40395 v_40405 f_40394 H _ ls (tr_w h_v_40405 (by decide) (by decide)) (tr_wa h_f_40394 (by decide) (by decide)) (FPi_skip hr40395_0 (by have z_d := tk_1; have z_0 := tk_0; (first | (clear h_i_undoMany h_i_length h_i_size h_i_p h_i_at h_i_token h_i_number h_i_letterMany h_i_faultAt h_i_isKnown h_i_toldMany hw_40401 c_40402_i h_40403; omega) | omega)) (by (first | (clear h_i_undoMany h_i_length h_i_size h_i_p h_i_at h_i_token h_i_number h_i_letterMany h_i_faultAt h_i_isKnown h_i_toldMany hw_40401 c_40402_i h_40403; omega) | omega))) (by have z_0 := tk_0; (first | (clear h_i_undoMany h_i_length h_i_size h_i_p h_i_at h_i_token h_i_number h_i_letterMany h_i_faultAt h_i_isKnown h_i_toldMany hw_40401 c_40402_i h_40403; omega) | omega)) (by (first | (clear h_i_undoMany h_i_length h_i_size h_i_p h_i_at h_i_token h_i_number h_i_letterMany h_i_faultAt h_i_isKnown h_i_toldMany hw_40401 c_40402_i h_40403; omega) | omega)) (hP.sub [0, 1, 2] rfl) (hD.sub [0, 1, 2] (by decide) rfl) hS (lv_sub hl [0, 1, 2] rfl)
        · skip
          have kk_0 := tk_0
          have c_40402_i : ¬ (r_40400 : Int32).toInt = (0 : Int32).toInt := (fun q => c_40402 (Int32.toInt_inj.mp q))
          have hw_40401_p0_u := (hw_40401_p0).get (fun q => c_40402_i (q.trans tk_0.symm))
          have h_40404 : 1 ≤ (r_40400 : Int32).toInt ∧ (r_40400 : Int32).toInt ≤ 1 := nr_ne_l hw_40401 (⟨by decide, by decide⟩ : 0 ≤ (0 : Int32).toInt ∧ (0 : Int32).toInt ≤ 0) c_40402_i (by decide) (by decide)
          refine lv_aload_n hx hb dX12_firstPlan_21 rfl (lv_at hl 1 rfl) ?_
          refine va_get (D := D) (ci := 12) (v := .ref m_choice) (C := RX12) (T := TX12) (N := 35) hx hb hts inlX12 hown hK hP 0 rfl rfl 20 (by decide) (hts (Cond.fieldLink RX12 40 "ChanceRingsModel" "choice" "[I") qw_125) (fun _ h9 => h9) rfl dX12_firstPlan_22 ?_
          refine lv_iload_n hx hb dX12_firstPlan_25 rfl (lv_at hl 0 rfl) ?_
          refine lv_aload_n hx hb dX12_firstPlan_26 rfl (lv_at hl 1 rfl) ?_
          refine va_get (D := D) (ci := 12) (v := .ref m_s) (C := RX12) (T := TX12) (N := 35) hx hb hts inlX12 hown hK hP 0 rfl rfl 1 (by decide) (hts (Cond.fieldLink RX12 13 "ChanceRingsModel" "s" "[I") qw_73) (fun _ h9 => h9) rfl dX12_firstPlan_27 ?_
          refine lv_bipush (v := 109) hx hb dX12_firstPlan_30 (by decide) ?_
          refine lv_iload_n hx hb dX12_firstPlan_32 rfl (lv_at hl 0 rfl) ?_
          refine lv_iadd hx hb dX12_firstPlan_33 ?_
          refine lv_topi (fun v_40406 v_40406_e => ?_)
          have h_v_40406 : 109 ≤ (v_40406 : Int32).toInt ∧ (v_40406 : Int32).toInt ≤ 120 := by rw [v_40406_e]; exact tr_add (⟨by decide, by decide⟩ : 109 ≤ (109 : Int32).toInt ∧ (109 : Int32).toInt ≤ 109) h_40398 (by decide) (by decide) (by decide) (by decide)
          have q_v_40406 : v_40406.toInt = 109 + x_40393.toInt := by rw [v_40406_e]; exact (tr_addX (⟨by decide, by decide⟩ : 109 ≤ (109 : Int32).toInt ∧ (109 : Int32).toInt ≤ 109) h_40398 (by decide) (by decide)).trans (by rw [tk_109])
          refine va_iald hx hb hK hP 1 0 rfl rfl (tr_in h_v_40406 (by decide) (by decide)) dX12_firstPlan_34 ?_
          refine lv_topi (fun v_40407 v_40407_e => ?_)
          have h_v_40407 : (-1) ≤ (v_40407 : Int32).toInt ∧ (v_40407 : Int32).toInt ≤ 2 := by rw [v_40407_e]; exact gr_held hG.r (tr_w h_v_40406 (by decide) (by decide))
          have g_v_40407 : v_40407 = sf (109 + x_40393.toInt.toNat) := v_40407_e.trans (congrArg sf (by show Int.toNat _ = _; (first | (clear h_i_undoMany h_i_length h_i_size h_i_p h_i_at h_i_token h_i_number h_i_letterMany h_i_faultAt h_i_isKnown h_i_toldMany h_f_40394 hw_40401 c_40402_i h_40404; omega) | omega)))
          have gi_v_40407 := congrArg Int32.toInt g_v_40407
          refine lv_if_ge (tgt := 42) hx hb dX12_firstPlan_35 (by decide) (fun c_40408 => ?_) (fun c_40408 => ?_)
          · skip
            have c_40408_i := Int32.le_iff_toInt_le.mp c_40408
            have h_40409 : 0 ≤ (v_40407 : Int32).toInt ∧ (v_40407 : Int32).toInt ≤ 2 := nr_le_r (⟨by decide, by decide⟩ : 0 ≤ (0 : Int32).toInt ∧ (0 : Int32).toInt ≤ 0) h_v_40407 c_40408_i (by decide) (by decide)
            refine lv_aload_n hx hb dX12_firstPlan_42 rfl (lv_at hl 1 rfl) ?_
            refine va_get (D := D) (ci := 12) (v := .ref m_s) (C := RX12) (T := TX12) (N := 35) hx hb hts inlX12 hown hK hP 0 rfl rfl 1 (by decide) (hts (Cond.fieldLink RX12 13 "ChanceRingsModel" "s" "[I") qw_73) (fun _ h9 => h9) rfl dX12_firstPlan_43 ?_
            refine lv_bipush (v := 109) hx hb dX12_firstPlan_46 (by decide) ?_
            refine lv_iload_n hx hb dX12_firstPlan_48 rfl (lv_at hl 0 rfl) ?_
            refine lv_iadd hx hb dX12_firstPlan_49 ?_
            refine lv_topi (fun v_40411 v_40411_e => ?_)
            have h_v_40411 : 109 ≤ (v_40411 : Int32).toInt ∧ (v_40411 : Int32).toInt ≤ 120 := by rw [v_40411_e]; exact tr_add (⟨by decide, by decide⟩ : 109 ≤ (109 : Int32).toInt ∧ (109 : Int32).toInt ≤ 109) h_40398 (by decide) (by decide) (by decide) (by decide)
            have q_v_40411 : v_40411.toInt = 109 + x_40393.toInt := by rw [v_40411_e]; exact (tr_addX (⟨by decide, by decide⟩ : 109 ≤ (109 : Int32).toInt ∧ (109 : Int32).toInt ≤ 109) h_40398 (by decide) (by decide)).trans (by rw [tk_109])
            refine va_iald hx hb hK hP 1 0 rfl rfl (tr_in h_v_40411 (by decide) (by decide)) dX12_firstPlan_50 ?_
            refine tz_i (y := v_40407) ((congrArg sf (by show Int.toNat _ = _; (first | (clear h_i_undoMany h_i_length h_i_size h_i_p h_i_at h_i_token h_i_number h_i_letterMany h_i_faultAt h_i_isKnown h_i_toldMany h_f_40394 hw_40401 c_40402_i h_40404; omega) | omega))).trans g_v_40407.symm) ?_
            refine va_iast hx hb hK hP hD hS 2 0 rfl rfl (tr_in h_40398 (by decide) (by decide)) dX12_firstPlan_51 (fun H locs hP hD hS => ?_)
            obtain ⟨f_40412, f_40412_e, h_f_40412, hP, hD⟩ : ∃ FX : Nat → Int32, FX = (upd f_40394 (x_40393 : Int32).toNatClampNeg v_40407) ∧ (∀ j : Nat, 0 ≤ (FX j).toInt ∧ (FX j).toInt ≤ 2) ∧ va_P D vwCl [(mm, .inr (12, (.int i_thrown :: .ref m_s :: .ref m_spare :: .ref m_kept :: .ref m_undone :: .ref m_triedWay :: .ref m_isKept :: .int i_undoMany :: .ref m_tape :: .int i_length :: .int i_size :: .int i_p :: .int i_at :: .int i_token :: .int i_number :: .int i_letterMany :: .int i_fault :: .int i_faultAt :: .ref m_letters :: .int i_isKnown :: .ref m_choice :: .ref m_row :: .ref m_up :: .ref m_low :: .ref m_m :: .ref m_bestUp :: .ref m_bestLow :: .ref m_replyUp :: .ref m_replyLow :: .ref m_worthUp :: .ref m_worthLow :: .ref m_bestWay :: .int i_seed :: .ref m_told :: .int i_toldMany :: []))), (m_s, .inl (g 0, 193, .inl sf)), (m_choice, .inl (g 0, 12, .inl FX))] H ∧ va_D A [(mm, .inr (12, (.int i_thrown :: .ref m_s :: .ref m_spare :: .ref m_kept :: .ref m_undone :: .ref m_triedWay :: .ref m_isKept :: .int i_undoMany :: .ref m_tape :: .int i_length :: .int i_size :: .int i_p :: .int i_at :: .int i_token :: .int i_number :: .int i_letterMany :: .int i_fault :: .int i_faultAt :: .ref m_letters :: .int i_isKnown :: .ref m_choice :: .ref m_row :: .ref m_up :: .ref m_low :: .ref m_m :: .ref m_bestUp :: .ref m_bestLow :: .ref m_replyUp :: .ref m_replyLow :: .ref m_worthUp :: .ref m_worthLow :: .ref m_bestWay :: .int i_seed :: .ref m_told :: .int i_toldMany :: []))), (m_s, .inl (g 0, 193, .inl sf)), (m_choice, .inl (g 0, 12, .inl FX))] := ⟨_, rfl, tr_upd h_f_40394 (tr_w h_40409 (by decide) (by decide)), hP, hD⟩
            have hP : va_P D vwCl [(mm, .inr (12, (.int i_thrown :: .ref m_s :: .ref m_spare :: .ref m_kept :: .ref m_undone :: .ref m_triedWay :: .ref m_isKept :: .int i_undoMany :: .ref m_tape :: .int i_length :: .int i_size :: .int i_p :: .int i_at :: .int i_token :: .int i_number :: .int i_letterMany :: .int i_fault :: .int i_faultAt :: .ref m_letters :: .int i_isKnown :: .ref m_choice :: .ref m_row :: .ref m_up :: .ref m_low :: .ref m_m :: .ref m_bestUp :: .ref m_bestLow :: .ref m_replyUp :: .ref m_replyLow :: .ref m_worthUp :: .ref m_worthLow :: .ref m_bestWay :: .int i_seed :: .ref m_told :: .int i_toldMany :: []))), (m_s, .inl (g 0, 193, .inl sf)), (m_choice, .inl (g 0, 12, .inl f_40412))] H := hP
            have hD : va_D A [(mm, .inr (12, (.int i_thrown :: .ref m_s :: .ref m_spare :: .ref m_kept :: .ref m_undone :: .ref m_triedWay :: .ref m_isKept :: .int i_undoMany :: .ref m_tape :: .int i_length :: .int i_size :: .int i_p :: .int i_at :: .int i_token :: .int i_number :: .int i_letterMany :: .int i_fault :: .int i_faultAt :: .ref m_letters :: .int i_isKnown :: .ref m_choice :: .ref m_row :: .ref m_up :: .ref m_low :: .ref m_m :: .ref m_bestUp :: .ref m_bestLow :: .ref m_replyUp :: .ref m_replyLow :: .ref m_worthUp :: .ref m_worthLow :: .ref m_bestWay :: .int i_seed :: .ref m_told :: .int i_toldMany :: []))), (m_s, .inl (g 0, 193, .inl sf)), (m_choice, .inl (g 0, 12, .inl f_40412))] := hD
            obtain ⟨v_40413, v_40413_e⟩ : ∃ y : Int32, y = x_40393 + Int32.ofInt 1 := ⟨_, rfl⟩
            have h_v_40413 : 1 ≤ (v_40413 : Int32).toInt ∧ (v_40413 : Int32).toInt ≤ 12 := by rw [v_40413_e]; exact tr_add h_40398 (⟨by decide, by decide⟩ : 1 ≤ (Int32.ofInt 1 : Int32).toInt ∧ (Int32.ofInt 1 : Int32).toInt ≤ 1) (by decide) (by decide) (by decide) (by decide)
            have q_v_40413 : v_40413.toInt = x_40393.toInt + 1 := by rw [v_40413_e]; exact tr_addE h_40398 (⟨by decide, by decide⟩ : 1 ≤ (Int32.ofInt 1 : Int32).toInt ∧ (Int32.ofInt 1 : Int32).toInt ≤ 1) (by decide) (by decide)
            refine lv_iinc (v := v_40413) (lv' := [(2, .int v_40413), (0, .ref mm), (1, .int 1)]) hx hb dX12_firstPlan_52 hl (k := 0) rfl v_40413_e.symm (by decide) rfl (fun ls hl => ?_)
            refine lv_goto (tgt := 2) hx hb dX12_firstPlan_55 (by decide) ?_
            exact ih_40395 v_40413 f_40412 H _ ls (tr_w h_v_40413 (by decide) (by decide)) (tr_wa h_f_40412 (by decide) (by decide)) (FPi_put hr40395_0 (by have z_d := tk_1; have z_0 := tk_0; (first | (clear h_i_undoMany h_i_length h_i_size h_i_p h_i_at h_i_token h_i_number h_i_letterMany h_i_faultAt h_i_isKnown h_i_toldMany h_f_40394 hw_40401 c_40402_i h_40404; omega) | omega)) f_40412_e (by rw [if_neg (by have z_d := tk_1; have z_0 := tk_0; (first | (clear h_i_undoMany h_i_length h_i_size h_i_p h_i_at h_i_token h_i_number h_i_letterMany h_i_faultAt h_i_isKnown h_i_toldMany h_f_40394 hw_40401 c_40402_i h_40404; omega) | omega))]; (first | (clear h_i_undoMany h_i_length h_i_size h_i_p h_i_at h_i_token h_i_number h_i_letterMany h_i_faultAt h_i_isKnown h_i_toldMany h_f_40394 hw_40401 c_40402_i h_40404; omega) | omega)) (by (first | (clear h_i_undoMany h_i_length h_i_size h_i_p h_i_at h_i_token h_i_number h_i_letterMany h_i_faultAt h_i_isKnown h_i_toldMany h_f_40394 hw_40401 c_40402_i h_40404; omega) | omega))) (by have z_0 := tk_0; (first | (clear h_i_undoMany h_i_length h_i_size h_i_p h_i_at h_i_token h_i_number h_i_letterMany h_i_faultAt h_i_isKnown h_i_toldMany h_f_40394 hw_40401 c_40402_i h_40404; omega) | omega)) (by (first | (clear h_i_undoMany h_i_length h_i_size h_i_p h_i_at h_i_token h_i_number h_i_letterMany h_i_faultAt h_i_isKnown h_i_toldMany h_f_40394 hw_40401 c_40402_i h_40404; omega) | omega)) (hP.sub [0, 1, 2] rfl) (hD.sub [0, 1, 2] (by decide) rfl) hS (lv_sub hl [0, 1, 2] rfl)
          · skip
            have c_40408_i := Int32.lt_iff_toInt_lt.mp (Int32.not_le.mp c_40408)
            have h_40410 : (-1) ≤ (v_40407 : Int32).toInt ∧ (v_40407 : Int32).toInt ≤ (-1) := nr_lt_l h_v_40407 (⟨by decide, by decide⟩ : 0 ≤ (0 : Int32).toInt ∧ (0 : Int32).toInt ≤ 0) c_40408_i (by decide) (by decide)
            refine lv_iconst (v := 0) hx hb dX12_firstPlan_38 (by decide) ?_
            refine lv_goto (tgt := 51) hx hb dX12_firstPlan_39 (by decide) ?_
            refine va_iast hx hb hK hP hD hS 2 0 rfl rfl (tr_in h_40398 (by decide) (by decide)) dX12_firstPlan_51 (fun H locs hP hD hS => ?_)
            obtain ⟨f_40414, f_40414_e, h_f_40414, hP, hD⟩ : ∃ FX : Nat → Int32, FX = (upd f_40394 (x_40393 : Int32).toNatClampNeg 0) ∧ (∀ j : Nat, 0 ≤ (FX j).toInt ∧ (FX j).toInt ≤ 2) ∧ va_P D vwCl [(mm, .inr (12, (.int i_thrown :: .ref m_s :: .ref m_spare :: .ref m_kept :: .ref m_undone :: .ref m_triedWay :: .ref m_isKept :: .int i_undoMany :: .ref m_tape :: .int i_length :: .int i_size :: .int i_p :: .int i_at :: .int i_token :: .int i_number :: .int i_letterMany :: .int i_fault :: .int i_faultAt :: .ref m_letters :: .int i_isKnown :: .ref m_choice :: .ref m_row :: .ref m_up :: .ref m_low :: .ref m_m :: .ref m_bestUp :: .ref m_bestLow :: .ref m_replyUp :: .ref m_replyLow :: .ref m_worthUp :: .ref m_worthLow :: .ref m_bestWay :: .int i_seed :: .ref m_told :: .int i_toldMany :: []))), (m_s, .inl (g 0, 193, .inl sf)), (m_choice, .inl (g 0, 12, .inl FX))] H ∧ va_D A [(mm, .inr (12, (.int i_thrown :: .ref m_s :: .ref m_spare :: .ref m_kept :: .ref m_undone :: .ref m_triedWay :: .ref m_isKept :: .int i_undoMany :: .ref m_tape :: .int i_length :: .int i_size :: .int i_p :: .int i_at :: .int i_token :: .int i_number :: .int i_letterMany :: .int i_fault :: .int i_faultAt :: .ref m_letters :: .int i_isKnown :: .ref m_choice :: .ref m_row :: .ref m_up :: .ref m_low :: .ref m_m :: .ref m_bestUp :: .ref m_bestLow :: .ref m_replyUp :: .ref m_replyLow :: .ref m_worthUp :: .ref m_worthLow :: .ref m_bestWay :: .int i_seed :: .ref m_told :: .int i_toldMany :: []))), (m_s, .inl (g 0, 193, .inl sf)), (m_choice, .inl (g 0, 12, .inl FX))] := ⟨_, rfl, tr_upd h_f_40394 (⟨by decide, by decide⟩ : 0 ≤ (0 : Int32).toInt ∧ (0 : Int32).toInt ≤ 2), hP, hD⟩
            have hP : va_P D vwCl [(mm, .inr (12, (.int i_thrown :: .ref m_s :: .ref m_spare :: .ref m_kept :: .ref m_undone :: .ref m_triedWay :: .ref m_isKept :: .int i_undoMany :: .ref m_tape :: .int i_length :: .int i_size :: .int i_p :: .int i_at :: .int i_token :: .int i_number :: .int i_letterMany :: .int i_fault :: .int i_faultAt :: .ref m_letters :: .int i_isKnown :: .ref m_choice :: .ref m_row :: .ref m_up :: .ref m_low :: .ref m_m :: .ref m_bestUp :: .ref m_bestLow :: .ref m_replyUp :: .ref m_replyLow :: .ref m_worthUp :: .ref m_worthLow :: .ref m_bestWay :: .int i_seed :: .ref m_told :: .int i_toldMany :: []))), (m_s, .inl (g 0, 193, .inl sf)), (m_choice, .inl (g 0, 12, .inl f_40414))] H := hP
            have hD : va_D A [(mm, .inr (12, (.int i_thrown :: .ref m_s :: .ref m_spare :: .ref m_kept :: .ref m_undone :: .ref m_triedWay :: .ref m_isKept :: .int i_undoMany :: .ref m_tape :: .int i_length :: .int i_size :: .int i_p :: .int i_at :: .int i_token :: .int i_number :: .int i_letterMany :: .int i_fault :: .int i_faultAt :: .ref m_letters :: .int i_isKnown :: .ref m_choice :: .ref m_row :: .ref m_up :: .ref m_low :: .ref m_m :: .ref m_bestUp :: .ref m_bestLow :: .ref m_replyUp :: .ref m_replyLow :: .ref m_worthUp :: .ref m_worthLow :: .ref m_bestWay :: .int i_seed :: .ref m_told :: .int i_toldMany :: []))), (m_s, .inl (g 0, 193, .inl sf)), (m_choice, .inl (g 0, 12, .inl f_40414))] := hD
            obtain ⟨v_40415, v_40415_e⟩ : ∃ y : Int32, y = x_40393 + Int32.ofInt 1 := ⟨_, rfl⟩
            have h_v_40415 : 1 ≤ (v_40415 : Int32).toInt ∧ (v_40415 : Int32).toInt ≤ 12 := by rw [v_40415_e]; exact tr_add h_40398 (⟨by decide, by decide⟩ : 1 ≤ (Int32.ofInt 1 : Int32).toInt ∧ (Int32.ofInt 1 : Int32).toInt ≤ 1) (by decide) (by decide) (by decide) (by decide)
            have q_v_40415 : v_40415.toInt = x_40393.toInt + 1 := by rw [v_40415_e]; exact tr_addE h_40398 (⟨by decide, by decide⟩ : 1 ≤ (Int32.ofInt 1 : Int32).toInt ∧ (Int32.ofInt 1 : Int32).toInt ≤ 1) (by decide) (by decide)
            refine lv_iinc (v := v_40415) (lv' := [(2, .int v_40415), (0, .ref mm), (1, .int 1)]) hx hb dX12_firstPlan_52 hl (k := 0) rfl v_40415_e.symm (by decide) rfl (fun ls hl => ?_)
            refine lv_goto (tgt := 2) hx hb dX12_firstPlan_55 (by decide) ?_
            exact ih_40395 v_40415 f_40414 H _ ls (tr_w h_v_40415 (by decide) (by decide)) (tr_wa h_f_40414 (by decide) (by decide)) (FPi_put hr40395_0 (by have z_d := tk_1; have z_0 := tk_0; (first | (clear h_i_undoMany h_i_length h_i_size h_i_p h_i_at h_i_token h_i_number h_i_letterMany h_i_faultAt h_i_isKnown h_i_toldMany h_f_40394 hw_40401 c_40402_i h_40404; omega) | omega)) f_40414_e (by rw [if_pos (by have z_d := tk_1; have z_0 := tk_0; (first | (clear h_i_undoMany h_i_length h_i_size h_i_p h_i_at h_i_token h_i_number h_i_letterMany h_i_faultAt h_i_isKnown h_i_toldMany h_f_40394 hw_40401 c_40402_i h_40404; omega) | omega))]; decide) (by (first | (clear h_i_undoMany h_i_length h_i_size h_i_p h_i_at h_i_token h_i_number h_i_letterMany h_i_faultAt h_i_isKnown h_i_toldMany h_f_40394 hw_40401 c_40402_i h_40404; omega) | omega))) (by have z_0 := tk_0; (first | (clear h_i_undoMany h_i_length h_i_size h_i_p h_i_at h_i_token h_i_number h_i_letterMany h_i_faultAt h_i_isKnown h_i_toldMany h_f_40394 hw_40401 c_40402_i h_40404; omega) | omega)) (by (first | (clear h_i_undoMany h_i_length h_i_size h_i_p h_i_at h_i_token h_i_number h_i_letterMany h_i_faultAt h_i_isKnown h_i_toldMany h_f_40394 hw_40401 c_40402_i h_40404; omega) | omega)) (hP.sub [0, 1, 2] rfl) (hD.sub [0, 1, 2] (by decide) rfl) hS (lv_sub hl [0, 1, 2] rfl)
  exact lp_40395 13 0 chf s.heap _ ls (⟨by decide, by decide⟩ : 0 ≤ (0 : Int32).toInt ∧ (0 : Int32).toInt ≤ 12) (tr_wa h_chf (by decide) (by decide)) FPi_zero (by have z_0 := tk_0; (first | (clear h_i_undoMany h_i_length h_i_size h_i_p h_i_at h_i_token h_i_number h_i_letterMany h_i_faultAt h_i_isKnown h_i_toldMany; omega) | omega)) (by decide) (hP.sub [0, 1, 2] rfl) (hD.sub [0, 1, 2] (by decide) rfl) hS (lv_sub hl [0, 1, 2] rfl)
set_option maxHeartbeats 4000000 in
set_option maxRecDepth 100000 in
theorem c_X12_nextPlan1 (l : Launch) (D : va_G) (g : Nat → ClassId) (sz : Nat) (mm : Nat) (i_thrown : Int32) (m_s : Nat) (m_spare : Nat) (m_kept : Nat) (m_undone : Nat) (m_triedWay : Nat) (m_isKept : Nat) (i_undoMany : Int32) (m_tape : Nat) (i_length : Int32) (i_size : Int32) (i_p : Int32) (i_at : Int32) (i_token : Int32) (i_number : Int32) (i_letterMany : Int32) (i_fault : Int32) (i_faultAt : Int32) (m_letters : Nat) (i_isKnown : Int32) (m_choice : Nat) (m_row : Nat) (m_up : Nat) (m_low : Nat) (m_m : Nat) (m_bestUp : Nat) (m_bestLow : Nat) (m_replyUp : Nat) (m_replyLow : Nat) (m_worthUp : Nat) (m_worthLow : Nat) (m_bestWay : Nat) (i_seed : Int32) (m_told : Nat) (i_toldMany : Int32) (sf : Nat → Int32) (chf : Nat → Int32) (h_i_undoMany : 0 ≤ (i_undoMany : Int32).toInt ∧ (i_undoMany : Int32).toInt ≤ 8) (h_i_length : 0 ≤ (i_length : Int32).toInt ∧ (i_length : Int32).toInt ≤ 440) (h_i_size : 0 ≤ (i_size : Int32).toInt ∧ (i_size : Int32).toInt ≤ 440) (h_i_p : 0 ≤ (i_p : Int32).toInt ∧ (i_p : Int32).toInt ≤ 440) (h_i_at : 0 ≤ (i_at : Int32).toInt ∧ (i_at : Int32).toInt ≤ 440) (h_i_token : 0 ≤ (i_token : Int32).toInt ∧ (i_token : Int32).toInt ≤ 4) (h_i_number : 0 ≤ (i_number : Int32).toInt ∧ (i_number : Int32).toInt ≤ 814) (h_i_letterMany : (-440) ≤ (i_letterMany : Int32).toInt ∧ (i_letterMany : Int32).toInt ≤ 440) (h_i_faultAt : 0 ≤ (i_faultAt : Int32).toInt ∧ (i_faultAt : Int32).toInt ≤ 440) (h_i_isKnown : 0 ≤ (i_isKnown : Int32).toInt ∧ (i_isKnown : Int32).toInt ≤ 1) (h_i_toldMany : 0 ≤ (i_toldMany : Int32).toInt ∧ (i_toldMany : Int32).toInt ≤ 900) (h_chf : ∀ j : Nat, 0 ≤ (chf j).toInt ∧ (chf j).toInt ≤ 2) (hG : GS sf) (hL : LGd sf 1 chf) : Met l yX12_nextPlan (.code yX12_nextPlan cX12_nextPlan 3 (some .boolean) :: wsL_law) ({ frames := 1, cells := 0, slots := 0, locals := 22 }) (va_Pc [.ref mm, .int 1] (fun U => U.heap.size = sz ∧ va_P D vwCl [(mm, .inr (12, (.int i_thrown :: .ref m_s :: .ref m_spare :: .ref m_kept :: .ref m_undone :: .ref m_triedWay :: .ref m_isKept :: .int i_undoMany :: .ref m_tape :: .int i_length :: .int i_size :: .int i_p :: .int i_at :: .int i_token :: .int i_number :: .int i_letterMany :: .int i_fault :: .int i_faultAt :: .ref m_letters :: .int i_isKnown :: .ref m_choice :: .ref m_row :: .ref m_up :: .ref m_low :: .ref m_m :: .ref m_bestUp :: .ref m_bestLow :: .ref m_replyUp :: .ref m_replyLow :: .ref m_worthUp :: .ref m_worthLow :: .ref m_bestWay :: .int i_seed :: .ref m_told :: .int i_toldMany :: []))), (m_s, .inl (g 0, 193, .inl sf)), (m_choice, .inl (g 0, 12, .inl chf))] U.heap ∧ va_K D vwCl (TY g) U ∧ va_D (fun _ => True) [(mm, .inr (12, (.int i_thrown :: .ref m_s :: .ref m_spare :: .ref m_kept :: .ref m_undone :: .ref m_triedWay :: .ref m_isKept :: .int i_undoMany :: .ref m_tape :: .int i_length :: .int i_size :: .int i_p :: .int i_at :: .int i_token :: .int i_number :: .int i_letterMany :: .int i_fault :: .int i_faultAt :: .ref m_letters :: .int i_isKnown :: .ref m_choice :: .ref m_row :: .ref m_up :: .ref m_low :: .ref m_m :: .ref m_bestUp :: .ref m_bestLow :: .ref m_replyUp :: .ref m_replyLow :: .ref m_worthUp :: .ref m_worthLow :: .ref m_bestWay :: .int i_seed :: .ref m_told :: .int i_toldMany :: []))), (m_s, .inl (g 0, 193, .inl sf)), (m_choice, .inl (g 0, 12, .inl chf))])) (va_Qi (fun (r u : Int32) => u = r ∧ (0 ≤ (r : Int32).toInt ∧ (r : Int32).toInt ≤ 1)) (fun r t => ∃ ochf : Nat → Int32, (∀ j : Nat, 0 ≤ (ochf j).toInt ∧ (ochf j).toInt ≤ 2) ∧ (NPr sf 1 chf ochf r) ∧ va_P D vwCl [(mm, .inr (12, (.int i_thrown :: .ref m_s :: .ref m_spare :: .ref m_kept :: .ref m_undone :: .ref m_triedWay :: .ref m_isKept :: .int i_undoMany :: .ref m_tape :: .int i_length :: .int i_size :: .int i_p :: .int i_at :: .int i_token :: .int i_number :: .int i_letterMany :: .int i_fault :: .int i_faultAt :: .ref m_letters :: .int i_isKnown :: .ref m_choice :: .ref m_row :: .ref m_up :: .ref m_low :: .ref m_m :: .ref m_bestUp :: .ref m_bestLow :: .ref m_replyUp :: .ref m_replyLow :: .ref m_worthUp :: .ref m_worthLow :: .ref m_bestWay :: .int i_seed :: .ref m_told :: .int i_toldMany :: []))), (m_s, .inl (g 0, 193, .inl sf)), (m_choice, .inl (g 0, 12, .inl ochf))] t.heap ∧ va_D (va_A [(mm, .inr (12, (.int i_thrown :: .ref m_s :: .ref m_spare :: .ref m_kept :: .ref m_undone :: .ref m_triedWay :: .ref m_isKept :: .int i_undoMany :: .ref m_tape :: .int i_length :: .int i_size :: .int i_p :: .int i_at :: .int i_token :: .int i_number :: .int i_letterMany :: .int i_fault :: .int i_faultAt :: .ref m_letters :: .int i_isKnown :: .ref m_choice :: .ref m_row :: .ref m_up :: .ref m_low :: .ref m_m :: .ref m_bestUp :: .ref m_bestLow :: .ref m_replyUp :: .ref m_replyLow :: .ref m_worthUp :: .ref m_worthLow :: .ref m_bestWay :: .int i_seed :: .ref m_told :: .int i_toldMany :: []))), (m_s, .inl (g 0, 193, .inl sf)), (m_choice, .inl (g 0, 12, .inl chf))] sz) [(mm, .inr (12, (.int i_thrown :: .ref m_s :: .ref m_spare :: .ref m_kept :: .ref m_undone :: .ref m_triedWay :: .ref m_isKept :: .int i_undoMany :: .ref m_tape :: .int i_length :: .int i_size :: .int i_p :: .int i_at :: .int i_token :: .int i_number :: .int i_letterMany :: .int i_fault :: .int i_faultAt :: .ref m_letters :: .int i_isKnown :: .ref m_choice :: .ref m_row :: .ref m_up :: .ref m_low :: .ref m_m :: .ref m_bestUp :: .ref m_bestLow :: .ref m_replyUp :: .ref m_replyLow :: .ref m_worthUp :: .ref m_worthLow :: .ref m_bestWay :: .int i_seed :: .ref m_told :: .int i_toldMany :: []))), (m_s, .inl (g 0, 193, .inl sf)), (m_choice, .inl (g 0, 12, .inl ochf))]) (va_A [(mm, .inr (12, (.int i_thrown :: .ref m_s :: .ref m_spare :: .ref m_kept :: .ref m_undone :: .ref m_triedWay :: .ref m_isKept :: .int i_undoMany :: .ref m_tape :: .int i_length :: .int i_size :: .int i_p :: .int i_at :: .int i_token :: .int i_number :: .int i_letterMany :: .int i_fault :: .int i_faultAt :: .ref m_letters :: .int i_isKnown :: .ref m_choice :: .ref m_row :: .ref m_up :: .ref m_low :: .ref m_m :: .ref m_bestUp :: .ref m_bestLow :: .ref m_replyUp :: .ref m_replyLow :: .ref m_worthUp :: .ref m_worthLow :: .ref m_bestWay :: .int i_seed :: .ref m_told :: .int i_toldMany :: []))), (m_s, .inl (g 0, 193, .inl sf)), (m_choice, .inl (g 0, 12, .inl chf))] sz)) 0 0 (va_A [(mm, .inr (12, (.int i_thrown :: .ref m_s :: .ref m_spare :: .ref m_kept :: .ref m_undone :: .ref m_triedWay :: .ref m_isKept :: .int i_undoMany :: .ref m_tape :: .int i_length :: .int i_size :: .int i_p :: .int i_at :: .int i_token :: .int i_number :: .int i_letterMany :: .int i_fault :: .int i_faultAt :: .ref m_letters :: .int i_isKnown :: .ref m_choice :: .ref m_row :: .ref m_up :: .ref m_low :: .ref m_m :: .ref m_bestUp :: .ref m_bestLow :: .ref m_replyUp :: .ref m_replyLow :: .ref m_worthUp :: .ref m_worthLow :: .ref m_bestWay :: .int i_seed :: .ref m_told :: .int i_toldMany :: []))), (m_s, .inl (g 0, 193, .inl sf)), (m_choice, .inl (g 0, 12, .inl chf))] sz) := by
  refine Met.ofW (cc := cX12_nextPlan) (maxL := 3) (ret := (some .boolean)) (by decide) rfl ?_
  intro p e s m args below meth c s₁ B hml hv
  obtain ⟨ha, hsz, hP, hK, hD0⟩ := hv
  have hx := B.exec
  have hb := B.bytes
  have hr := B.returns
  have hts0 := atoms_spec (ws := (.code yX12_nextPlan cX12_nextPlan 3 (some .boolean) :: wsL_law)) B.pre
  have hts : ∀ w ∈ wsL_law, w.before args s = true := fun w h => hts0 w (List.mem_cons_of_mem _ h)
  have hown : s.vm.findClass RX12 = some m.cls := findClass_of_methodNamed B.named
  have hlocks := B.notSynchronized
  subst hsz
  have hD := hD0.self (sz := s.heap.size)
  generalize hAe : va_A [(mm, .inr (12, (.int i_thrown :: .ref m_s :: .ref m_spare :: .ref m_kept :: .ref m_undone :: .ref m_triedWay :: .ref m_isKept :: .int i_undoMany :: .ref m_tape :: .int i_length :: .int i_size :: .int i_p :: .int i_at :: .int i_token :: .int i_number :: .int i_letterMany :: .int i_fault :: .int i_faultAt :: .ref m_letters :: .int i_isKnown :: .ref m_choice :: .ref m_row :: .ref m_up :: .ref m_low :: .ref m_m :: .ref m_bestUp :: .ref m_bestLow :: .ref m_replyUp :: .ref m_replyLow :: .ref m_worthUp :: .ref m_worthLow :: .ref m_bestWay :: .int i_seed :: .ref m_told :: .int i_toldMany :: []))), (m_s, .inl (g 0, 193, .inl sf)), (m_choice, .inl (g 0, 12, .inl chf))] s.heap.size = A at hD ⊢
  have hA : ∀ q : Nat, s.heap.size ≤ q → A q := fun q h => by rw [← hAe]; exact Or.inr h
  have hS : va_S A s.heap s.heap [] := va_S.rf
  have hP : va_P D vwCl [(mm, .inr (12, (.int i_thrown :: .ref m_s :: .ref m_spare :: .ref m_kept :: .ref m_undone :: .ref m_triedWay :: .ref m_isKept :: .int i_undoMany :: .ref m_tape :: .int i_length :: .int i_size :: .int i_p :: .int i_at :: .int i_token :: .int i_number :: .int i_letterMany :: .int i_fault :: .int i_faultAt :: .ref m_letters :: .int i_isKnown :: .ref m_choice :: .ref m_row :: .ref m_up :: .ref m_low :: .ref m_m :: .ref m_bestUp :: .ref m_bestLow :: .ref m_replyUp :: .ref m_replyLow :: .ref m_worthUp :: .ref m_worthLow :: .ref m_bestWay :: .int i_seed :: .ref m_told :: .int i_toldMany :: []))), (m_s, .inl (g 0, 193, .inl sf)), (m_choice, .inl (g 0, 12, .inl chf))] s.heap := hP
  refine W.eq (g2 := entryFrame m ([.ref mm, .int 1] : List Value).toArray 3) (by rw [ha]) ?_
  have hl := lv_entry ([.ref mm, .int 1]) (n := 3) (Nat.le_of_ble_eq_true rfl)
  rw [lg_entry_eq]
  generalize (lg_sl ([.ref mm, .int 1]) ++ List.replicate (3 - (lg_sl ([.ref mm, .int 1])).length) Slot.unset).toArray = ls at hl ⊢
  have hl : lv_has ls 3 [(0, .ref mm), (1, .int 1)] := hl
  have gn9 := hG.r.1
  refine lv_aload_n hx hb dX12_nextPlan_0 rfl (lv_at hl 0 rfl) ?_
  refine va_get (D := D) (ci := 12) (v := .ref m_s) (C := RX12) (T := TX12) (N := 35) hx hb hts inlX12 hown hK hP 0 rfl rfl 1 (by decide) (hts (Cond.fieldLink RX12 13 "ChanceRingsModel" "s" "[I") qw_73) (fun _ h9 => h9) rfl dX12_nextPlan_1 ?_
  refine lv_iconst (v := 0) hx hb dX12_nextPlan_4 (by decide) ?_
  refine va_iald hx hb hK hP 1 0 rfl rfl (tz_in (by decide +kernel)) dX12_nextPlan_5 ?_
  refine lv_topi (fun v_40416 v_40416_e => ?_)
  have h_v_40416 : 0 ≤ (v_40416 : Int32).toInt ∧ (v_40416 : Int32).toInt ≤ 12 := by rw [v_40416_e]; exact gr_nodes hG.r (⟨by decide, by decide⟩ : 0 ≤ (0 : Int32).toInt ∧ (0 : Int32).toInt ≤ 0)
  have g_v_40416 : v_40416 = sf (0) := v_40416_e.trans (congrArg sf rfl)
  have gi_v_40416 := congrArg Int32.toInt g_v_40416
  refine lv_iconst (v := 1) hx hb dX12_nextPlan_6 (by decide) ?_
  refine lv_isub hx hb dX12_nextPlan_7 ?_
  refine lv_topi (fun v_40417 v_40417_e => ?_)
  have h_v_40417 : (-1) ≤ (v_40417 : Int32).toInt ∧ (v_40417 : Int32).toInt ≤ 11 := by rw [v_40417_e]; exact tr_sub h_v_40416 (⟨by decide, by decide⟩ : 1 ≤ (1 : Int32).toInt ∧ (1 : Int32).toInt ≤ 1) (by decide) (by decide) (by decide) (by decide)
  have q_v_40417 : v_40417.toInt = v_40416.toInt - 1 := by rw [v_40417_e]; exact tr_subE h_v_40416 (⟨by decide, by decide⟩ : 1 ≤ (1 : Int32).toInt ∧ (1 : Int32).toInt ≤ 1) (by decide) (by decide)
  refine lv_istore_n (lv' := [(2, .int v_40417), (0, .ref mm), (1, .int 1)]) hx hb dX12_nextPlan_8 rfl hl (by decide) rfl (fun ls hl => ?_)
  have lp_40479 : ∀ (n_40479 : Nat) (x_40477 : Int32) (f_40478 : Nat → Int32) (H : Heap) (locs : List Loc) (ls : Array Slot), ((-1) ≤ (x_40477 : Int32).toInt ∧ (x_40477 : Int32).toInt ≤ 11) → (∀ j : Nat, 0 ≤ (f_40478 j).toInt ∧ (f_40478 j).toInt ≤ 2) → (NPi sf 1 chf f_40478 (x_40477.toInt + 1).toNat) → (x_40477.toInt < (sf 0).toInt) → (x_40477.toInt - (-1) < (n_40479 : Int)) → va_P D vwCl [(mm, .inr (12, (.int i_thrown :: .ref m_s :: .ref m_spare :: .ref m_kept :: .ref m_undone :: .ref m_triedWay :: .ref m_isKept :: .int i_undoMany :: .ref m_tape :: .int i_length :: .int i_size :: .int i_p :: .int i_at :: .int i_token :: .int i_number :: .int i_letterMany :: .int i_fault :: .int i_faultAt :: .ref m_letters :: .int i_isKnown :: .ref m_choice :: .ref m_row :: .ref m_up :: .ref m_low :: .ref m_m :: .ref m_bestUp :: .ref m_bestLow :: .ref m_replyUp :: .ref m_replyLow :: .ref m_worthUp :: .ref m_worthLow :: .ref m_bestWay :: .int i_seed :: .ref m_told :: .int i_toldMany :: []))), (m_s, .inl (g 0, 193, .inl sf)), (m_choice, .inl (g 0, 12, .inl f_40478))] H → va_D A [(mm, .inr (12, (.int i_thrown :: .ref m_s :: .ref m_spare :: .ref m_kept :: .ref m_undone :: .ref m_triedWay :: .ref m_isKept :: .int i_undoMany :: .ref m_tape :: .int i_length :: .int i_size :: .int i_p :: .int i_at :: .int i_token :: .int i_number :: .int i_letterMany :: .int i_fault :: .int i_faultAt :: .ref m_letters :: .int i_isKnown :: .ref m_choice :: .ref m_row :: .ref m_up :: .ref m_low :: .ref m_m :: .ref m_bestUp :: .ref m_bestLow :: .ref m_replyUp :: .ref m_replyLow :: .ref m_worthUp :: .ref m_worthLow :: .ref m_bestWay :: .int i_seed :: .ref m_told :: .int i_toldMany :: []))), (m_s, .inl (g 0, 193, .inl sf)), (m_choice, .inl (g 0, 12, .inl f_40478))] → va_S A s.heap H locs → lv_has ls 3 [(2, .int x_40477), (0, .ref mm), (1, .int 1)] → W p l e (headSpec (.code yX12_nextPlan cX12_nextPlan 3 (some .boolean) :: wsL_law) ({ frames := 1, cells := 0, slots := 0, locals := 22 })).room s m args below meth c H locs 0 0 (MQ below (va_Qi (fun (r u : Int32) => u = r ∧ (0 ≤ (r : Int32).toInt ∧ (r : Int32).toInt ≤ 1)) (fun r t => ∃ ochf : Nat → Int32, (∀ j : Nat, 0 ≤ (ochf j).toInt ∧ (ochf j).toInt ≤ 2) ∧ (NPr sf 1 chf ochf r) ∧ va_P D vwCl [(mm, .inr (12, (.int i_thrown :: .ref m_s :: .ref m_spare :: .ref m_kept :: .ref m_undone :: .ref m_triedWay :: .ref m_isKept :: .int i_undoMany :: .ref m_tape :: .int i_length :: .int i_size :: .int i_p :: .int i_at :: .int i_token :: .int i_number :: .int i_letterMany :: .int i_fault :: .int i_faultAt :: .ref m_letters :: .int i_isKnown :: .ref m_choice :: .ref m_row :: .ref m_up :: .ref m_low :: .ref m_m :: .ref m_bestUp :: .ref m_bestLow :: .ref m_replyUp :: .ref m_replyLow :: .ref m_worthUp :: .ref m_worthLow :: .ref m_bestWay :: .int i_seed :: .ref m_told :: .int i_toldMany :: []))), (m_s, .inl (g 0, 193, .inl sf)), (m_choice, .inl (g 0, 12, .inl ochf))] t.heap ∧ va_D A [(mm, .inr (12, (.int i_thrown :: .ref m_s :: .ref m_spare :: .ref m_kept :: .ref m_undone :: .ref m_triedWay :: .ref m_isKept :: .int i_undoMany :: .ref m_tape :: .int i_length :: .int i_size :: .int i_p :: .int i_at :: .int i_token :: .int i_number :: .int i_letterMany :: .int i_fault :: .int i_faultAt :: .ref m_letters :: .int i_isKnown :: .ref m_choice :: .ref m_row :: .ref m_up :: .ref m_low :: .ref m_m :: .ref m_bestUp :: .ref m_bestLow :: .ref m_replyUp :: .ref m_replyLow :: .ref m_worthUp :: .ref m_worthLow :: .ref m_bestWay :: .int i_seed :: .ref m_told :: .int i_toldMany :: []))), (m_s, .inl (g 0, 193, .inl sf)), (m_choice, .inl (g 0, 12, .inl ochf))]) A) args s 0 0 A) (F0 m 9 ls []) := by
    intro n_40479
    induction n_40479 with
    | zero =>
      intro x_40477 f_40478 H locs ls h_x_40477 h_f_40478 hr40479_0 hr40479_1 hm_40479 hP hD hS hl
      exfalso; omega
    | succ n_40479 ih_40479 =>
      intro x_40477 f_40478 H locs ls h_x_40477 h_f_40478 hr40479_0 hr40479_1 hm_40479 hP hD hS hl
      refine lv_iload_n hx hb dX12_nextPlan_9 rfl (lv_at hl 0 rfl) ?_
      refine lv_if_lt (tgt := 80) hx hb dX12_nextPlan_10 (by decide) (fun c_40480 => ?_) (fun c_40480 => ?_)
      · skip
        have kk_0 := tk_0
        have c_40480_i := Int32.lt_iff_toInt_lt.mp c_40480
        have h_40481 : (-1) ≤ (x_40477 : Int32).toInt ∧ (x_40477 : Int32).toInt ≤ (-1) := nr_lt_l h_x_40477 (⟨by decide, by decide⟩ : 0 ≤ (0 : Int32).toInt ∧ (0 : Int32).toInt ≤ 0) c_40480_i (by decide) (by decide)
        refine lv_iconst (v := 0) hx hb dX12_nextPlan_80 (by decide) ?_
        have hP9 := hP.sub (ws' := [(mm, .inr (12, (.int i_thrown :: .ref m_s :: .ref m_spare :: .ref m_kept :: .ref m_undone :: .ref m_triedWay :: .ref m_isKept :: .int i_undoMany :: .ref m_tape :: .int i_length :: .int i_size :: .int i_p :: .int i_at :: .int i_token :: .int i_number :: .int i_letterMany :: .int i_fault :: .int i_faultAt :: .ref m_letters :: .int i_isKnown :: .ref m_choice :: .ref m_row :: .ref m_up :: .ref m_low :: .ref m_m :: .ref m_bestUp :: .ref m_bestLow :: .ref m_replyUp :: .ref m_replyLow :: .ref m_worthUp :: .ref m_worthLow :: .ref m_bestWay :: .int i_seed :: .ref m_told :: .int i_toldMany :: []))), (m_s, .inl (g 0, 193, .inl sf)), (m_choice, .inl (g 0, 12, .inl f_40478))]) [0, 1, 2] rfl
        have hD9 := hD.sub (ws' := [(mm, .inr (12, (.int i_thrown :: .ref m_s :: .ref m_spare :: .ref m_kept :: .ref m_undone :: .ref m_triedWay :: .ref m_isKept :: .int i_undoMany :: .ref m_tape :: .int i_length :: .int i_size :: .int i_p :: .int i_at :: .int i_token :: .int i_number :: .int i_letterMany :: .int i_fault :: .int i_faultAt :: .ref m_letters :: .int i_isKnown :: .ref m_choice :: .ref m_row :: .ref m_up :: .ref m_low :: .ref m_m :: .ref m_bestUp :: .ref m_bestLow :: .ref m_replyUp :: .ref m_replyLow :: .ref m_worthUp :: .ref m_worthLow :: .ref m_bestWay :: .int i_seed :: .ref m_told :: .int i_toldMany :: []))), (m_s, .inl (g 0, 193, .inl sf)), (m_choice, .inl (g 0, 12, .inl f_40478))]) [0, 1, 2] (by decide) rfl
        exact W.zret (v := 0) hx hb hr (by decide) (fun t ht hW => ⟨⟨0, 0, rfl, ⟨rfl, (⟨by decide, by decide⟩ : 0 ≤ (0 : Int32).toInt ∧ (0 : Int32).toInt ≤ 1)⟩, f_40478, (tr_wa h_f_40478 (by decide) (by decide)), (NPr_last hG (by decide) hr40479_0 hL (by (first | (clear h_i_undoMany h_i_length h_i_size h_i_p h_i_at h_i_token h_i_number h_i_letterMany h_i_faultAt h_i_isKnown h_i_toldMany h_v_40416 g_v_40416 gi_v_40416 h_v_40417 q_v_40417 h_x_40477 c_40480_i h_40481; omega) | omega)) (by decide)), by rw [ht]; exact hP9, hD9⟩, hS.F ht⟩) hS.2.2 dX12_nextPlan_81
      · skip
        have kk_0 := tk_0
        have c_40480_i := Int32.le_iff_toInt_le.mp (Int32.not_lt.mp c_40480)
        have h_40482 : 0 ≤ (x_40477 : Int32).toInt ∧ (x_40477 : Int32).toInt ≤ 11 := nr_le_r (⟨by decide, by decide⟩ : 0 ≤ (0 : Int32).toInt ∧ (0 : Int32).toInt ≤ 0) h_x_40477 c_40480_i (by decide) (by decide)
        refine lv_aload_n hx hb dX12_nextPlan_13 rfl (lv_at hl 1 rfl) ?_
        refine lv_iload_n hx hb dX12_nextPlan_14 rfl (lv_at hl 0 rfl) ?_
        refine lv_iload_n hx hb dX12_nextPlan_15 rfl (lv_at hl 2 rfl) ?_
        have hPc := hP.sub (ws' := [(mm, .inr (12, (.int i_thrown :: .ref m_s :: .ref m_spare :: .ref m_kept :: .ref m_undone :: .ref m_triedWay :: .ref m_isKept :: .int i_undoMany :: .ref m_tape :: .int i_length :: .int i_size :: .int i_p :: .int i_at :: .int i_token :: .int i_number :: .int i_letterMany :: .int i_fault :: .int i_faultAt :: .ref m_letters :: .int i_isKnown :: .ref m_choice :: .ref m_row :: .ref m_up :: .ref m_low :: .ref m_m :: .ref m_bestUp :: .ref m_bestLow :: .ref m_replyUp :: .ref m_replyLow :: .ref m_worthUp :: .ref m_worthLow :: .ref m_bestWay :: .int i_seed :: .ref m_told :: .int i_toldMany :: []))), (m_s, .inl (g 0, 193, .inl sf))]) [0, 1] rfl
        refine vp_callSi (va_Run.run (va_runV (As := [.int x_40477, .int 1]) (rest := []) ⟨hx, hb, hml, hown, hts⟩ (c_X12_isKind l D g mm x_40477 1 i_thrown m_s m_spare m_kept m_undone m_triedWay m_isKept i_undoMany m_tape i_length i_size i_p i_at i_token i_number i_letterMany i_fault i_faultAt m_letters i_isKnown m_choice m_row m_up m_low m_m m_bestUp m_bestLow m_replyUp m_replyLow m_worthUp m_worthLow m_bestWay i_seed m_told i_toldMany sf (tr_w h_40482 (by decide) (by decide)) (tr_w h_i_undoMany (by decide) (by decide)) (tr_w h_i_length (by decide) (by decide)) (tr_w h_i_size (by decide) (by decide)) (tr_w h_i_p (by decide) (by decide)) (tr_w h_i_at (by decide) (by decide)) (tr_w h_i_token (by decide) (by decide)) (tr_w h_i_number (by decide) (by decide)) (tr_w h_i_letterMany (by decide) (by decide)) (tr_w h_i_faultAt (by decide) (by decide)) (tr_w h_i_isKnown (by decide) (by decide)) (tr_w h_i_toldMany (by decide) (by decide)) hG) (cwV 2 hts (tz_gV qw_94 qw_95 qw_96 qw_3 qw_97) rfl rfl rfl (by decide +kernel) ⟨Nat.le_of_ble_eq_true rfl, Nat.le_of_ble_eq_true rfl⟩) ⟨tz_blS, va_recv hK hPc (ci := 12) (q0 := 0) rfl rfl, tz_preS hPc hK⟩ rfl rfl hl.1 rfl (lv_room (Nat.le_of_ble_eq_true rfl)) dX12_nextPlan_16 ⟨Nat.le_of_ble_eq_true rfl, Nat.le_of_ble_eq_true rfl⟩)) (fun r_40483 hw => ?_)
        have kk_1 := tk_1
        have hw_40484 : 0 ≤ (r_40483 : Int32).toInt ∧ (r_40483 : Int32).toInt ≤ 1 := hw.1
        have hw_40484_p0 : Hide (¬ (r_40483 : Int32).toInt = 0 → (sf (1 + (x_40477 : Int32).toInt.toNat)).toInt = (1 : Int32).toInt) := hw.2.1
        have hw_40484_p1 : Hide ((r_40483 : Int32).toInt = 0 → ¬ (sf (1 + (x_40477 : Int32).toInt.toNat)).toInt = (1 : Int32).toInt) := hw.2.2
        refine lv_if_eq (tgt := 74) hx hb dX12_nextPlan_19 (by decide) (fun c_40485 => ?_) (fun c_40485 => ?_)
        · skip
          have c_40485_i : (r_40483 : Int32).toInt = (0 : Int32).toInt := congrArg Int32.toInt c_40485
          have hw_40484_p1_u := (hw_40484_p1).get (c_40485_i.trans tk_0)
          have h_40486 : 0 ≤ (r_40483 : Int32).toInt ∧ (r_40483 : Int32).toInt ≤ 0 := nr_eq_l hw_40484 (⟨by decide, by decide⟩ : 0 ≤ (0 : Int32).toInt ∧ (0 : Int32).toInt ≤ 0) c_40485_i (by decide) (by decide)
          obtain ⟨v_40488, v_40488_e⟩ : ∃ y : Int32, y = x_40477 + Int32.ofInt (-1) := ⟨_, rfl⟩
          have h_v_40488 : (-1) ≤ (v_40488 : Int32).toInt ∧ (v_40488 : Int32).toInt ≤ 10 := by rw [v_40488_e]; exact tr_add h_40482 (⟨by decide, by decide⟩ : (-1) ≤ (Int32.ofInt (-1) : Int32).toInt ∧ (Int32.ofInt (-1) : Int32).toInt ≤ (-1)) (by decide) (by decide) (by decide) (by decide)
          have q_v_40488 : v_40488.toInt = x_40477.toInt + (-1) := by rw [v_40488_e]; exact tr_addE h_40482 (⟨by decide, by decide⟩ : (-1) ≤ (Int32.ofInt (-1) : Int32).toInt ∧ (Int32.ofInt (-1) : Int32).toInt ≤ (-1)) (by decide) (by decide)
          refine lv_iinc (v := v_40488) (lv' := [(2, .int v_40488), (0, .ref mm), (1, .int 1)]) hx hb dX12_nextPlan_74 hl (k := 0) rfl v_40488_e.symm (by decide) rfl (fun ls hl => ?_)
          refine lv_goto (tgt := 9) hx hb dX12_nextPlan_77 (by decide) ?_
          exact ih_40479 v_40488 f_40478 H _ ls (tr_w h_v_40488 (by decide) (by decide)) (tr_wa h_f_40478 (by decide) (by decide)) (NPi_skip (k := x_40477.toInt.toNat) hr40479_0 (by have z_d := tk_1; have z_0 := tk_0; (first | (clear h_i_undoMany h_i_length h_i_size h_i_p h_i_at h_i_token h_i_number h_i_letterMany h_i_faultAt h_i_isKnown h_i_toldMany h_v_40416 g_v_40416 gi_v_40416 h_v_40417 q_v_40417 hw_40484 c_40485_i h_40486; omega) | omega)) (by (first | (clear h_i_undoMany h_i_length h_i_size h_i_p h_i_at h_i_token h_i_number h_i_letterMany h_i_faultAt h_i_isKnown h_i_toldMany h_v_40416 g_v_40416 gi_v_40416 h_v_40417 q_v_40417 hw_40484 c_40485_i h_40486; omega) | omega)) (by (first | (clear h_i_undoMany h_i_length h_i_size h_i_p h_i_at h_i_token h_i_number h_i_letterMany h_i_faultAt h_i_isKnown h_i_toldMany h_v_40416 g_v_40416 gi_v_40416 h_v_40417 q_v_40417 hw_40484 c_40485_i h_40486; omega) | omega))) (by have z_0 := tk_0; (first | (clear h_i_undoMany h_i_length h_i_size h_i_p h_i_at h_i_token h_i_number h_i_letterMany h_i_faultAt h_i_isKnown h_i_toldMany h_v_40416 g_v_40416 gi_v_40416 h_v_40417 q_v_40417 hw_40484 c_40485_i h_40486; omega) | omega)) (by (first | (clear h_i_undoMany h_i_length h_i_size h_i_p h_i_at h_i_token h_i_number h_i_letterMany h_i_faultAt h_i_isKnown h_i_toldMany h_v_40416 g_v_40416 gi_v_40416 h_v_40417 q_v_40417 hw_40484 c_40485_i h_40486; omega) | omega)) (hP.sub [0, 1, 2] rfl) (hD.sub [0, 1, 2] (by decide) rfl) hS (lv_sub hl [0, 1, 2] rfl)
        · skip
          have c_40485_i : ¬ (r_40483 : Int32).toInt = (0 : Int32).toInt := (fun q => c_40485 (Int32.toInt_inj.mp q))
          have hw_40484_p0_u := (hw_40484_p0).get (fun q => c_40485_i (q.trans tk_0.symm))
          have h_40487 : 1 ≤ (r_40483 : Int32).toInt ∧ (r_40483 : Int32).toInt ≤ 1 := nr_ne_l hw_40484 (⟨by decide, by decide⟩ : 0 ≤ (0 : Int32).toInt ∧ (0 : Int32).toInt ≤ 0) c_40485_i (by decide) (by decide)
          refine lv_aload_n hx hb dX12_nextPlan_22 rfl (lv_at hl 1 rfl) ?_
          refine va_get (D := D) (ci := 12) (v := .ref m_s) (C := RX12) (T := TX12) (N := 35) hx hb hts inlX12 hown hK hP 0 rfl rfl 1 (by decide) (hts (Cond.fieldLink RX12 13 "ChanceRingsModel" "s" "[I") qw_73) (fun _ h9 => h9) rfl dX12_nextPlan_23 ?_
          refine lv_bipush (v := 109) hx hb dX12_nextPlan_26 (by decide) ?_
          refine lv_iload_n hx hb dX12_nextPlan_28 rfl (lv_at hl 0 rfl) ?_
          refine lv_iadd hx hb dX12_nextPlan_29 ?_
          refine lv_topi (fun v_40489 v_40489_e => ?_)
          have h_v_40489 : 109 ≤ (v_40489 : Int32).toInt ∧ (v_40489 : Int32).toInt ≤ 120 := by rw [v_40489_e]; exact tr_add (⟨by decide, by decide⟩ : 109 ≤ (109 : Int32).toInt ∧ (109 : Int32).toInt ≤ 109) h_40482 (by decide) (by decide) (by decide) (by decide)
          have q_v_40489 : v_40489.toInt = 109 + x_40477.toInt := by rw [v_40489_e]; exact (tr_addX (⟨by decide, by decide⟩ : 109 ≤ (109 : Int32).toInt ∧ (109 : Int32).toInt ≤ 109) h_40482 (by decide) (by decide)).trans (by rw [tk_109])
          refine va_iald hx hb hK hP 1 0 rfl rfl (tr_in h_v_40489 (by decide) (by decide)) dX12_nextPlan_30 ?_
          refine lv_topi (fun v_40490 v_40490_e => ?_)
          have h_v_40490 : (-1) ≤ (v_40490 : Int32).toInt ∧ (v_40490 : Int32).toInt ≤ 2 := by rw [v_40490_e]; exact gr_held hG.r (tr_w h_v_40489 (by decide) (by decide))
          have g_v_40490 : v_40490 = sf (109 + x_40477.toInt.toNat) := v_40490_e.trans (congrArg sf (by show Int.toNat _ = _; (first | (clear h_i_undoMany h_i_length h_i_size h_i_p h_i_at h_i_token h_i_number h_i_letterMany h_i_faultAt h_i_isKnown h_i_toldMany h_f_40478 hw_40484 c_40485_i h_40487; omega) | omega)))
          have gi_v_40490 := congrArg Int32.toInt g_v_40490
          refine lv_if_lt (tgt := 37) hx hb dX12_nextPlan_31 (by decide) (fun c_40491 => ?_) (fun c_40491 => ?_)
          · skip
            have c_40491_i := Int32.lt_iff_toInt_lt.mp c_40491
            have h_40492 : (-1) ≤ (v_40490 : Int32).toInt ∧ (v_40490 : Int32).toInt ≤ (-1) := nr_lt_l h_v_40490 (⟨by decide, by decide⟩ : 0 ≤ (0 : Int32).toInt ∧ (0 : Int32).toInt ≤ 0) c_40491_i (by decide) (by decide)
            refine lv_aload_n hx hb dX12_nextPlan_37 rfl (lv_at hl 1 rfl) ?_
            refine va_get (D := D) (ci := 12) (v := .ref m_choice) (C := RX12) (T := TX12) (N := 35) hx hb hts inlX12 hown hK hP 0 rfl rfl 20 (by decide) (hts (Cond.fieldLink RX12 40 "ChanceRingsModel" "choice" "[I") qw_125) (fun _ h9 => h9) rfl dX12_nextPlan_38 ?_
            refine lv_iload_n hx hb dX12_nextPlan_41 rfl (lv_at hl 0 rfl) ?_
            refine lv_dup2_11 hx hb dX12_nextPlan_42 rfl rfl ?_
            refine va_iald hx hb hK hP 2 0 rfl rfl (tr_in h_40482 (by decide) (by decide)) dX12_nextPlan_43 ?_
            refine lv_topi (fun v_40494 v_40494_e => ?_)
            have h_v_40494 : 0 ≤ (v_40494 : Int32).toInt ∧ (v_40494 : Int32).toInt ≤ 2 := by rw [v_40494_e]; exact h_f_40478 _
            have g_v_40494 : v_40494 = f_40478 (x_40477.toInt.toNat) := v_40494_e.trans (congrArg f_40478 rfl)
            have gi_v_40494 := congrArg Int32.toInt g_v_40494
            refine lv_iconst (v := 1) hx hb dX12_nextPlan_44 (by decide) ?_
            refine lv_iadd hx hb dX12_nextPlan_45 ?_
            refine lv_topi (fun v_40495 v_40495_e => ?_)
            have h_v_40495 : 1 ≤ (v_40495 : Int32).toInt ∧ (v_40495 : Int32).toInt ≤ 3 := by rw [v_40495_e]; exact tr_add h_v_40494 (⟨by decide, by decide⟩ : 1 ≤ (1 : Int32).toInt ∧ (1 : Int32).toInt ≤ 1) (by decide) (by decide) (by decide) (by decide)
            have q_v_40495 : v_40495.toInt = v_40494.toInt + 1 := by rw [v_40495_e]; exact tr_addE h_v_40494 (⟨by decide, by decide⟩ : 1 ≤ (1 : Int32).toInt ∧ (1 : Int32).toInt ≤ 1) (by decide) (by decide)
            refine va_iast hx hb hK hP hD hS 2 0 rfl rfl (tr_in h_40482 (by decide) (by decide)) dX12_nextPlan_46 (fun H locs hP hD hS => ?_)
            obtain ⟨f_40496, f_40496_e, hP, hD⟩ : ∃ FX : Nat → Int32, FX = (upd f_40478 (x_40477 : Int32).toNatClampNeg v_40495) ∧ va_P D vwCl [(mm, .inr (12, (.int i_thrown :: .ref m_s :: .ref m_spare :: .ref m_kept :: .ref m_undone :: .ref m_triedWay :: .ref m_isKept :: .int i_undoMany :: .ref m_tape :: .int i_length :: .int i_size :: .int i_p :: .int i_at :: .int i_token :: .int i_number :: .int i_letterMany :: .int i_fault :: .int i_faultAt :: .ref m_letters :: .int i_isKnown :: .ref m_choice :: .ref m_row :: .ref m_up :: .ref m_low :: .ref m_m :: .ref m_bestUp :: .ref m_bestLow :: .ref m_replyUp :: .ref m_replyLow :: .ref m_worthUp :: .ref m_worthLow :: .ref m_bestWay :: .int i_seed :: .ref m_told :: .int i_toldMany :: []))), (m_s, .inl (g 0, 193, .inl sf)), (m_choice, .inl (g 0, 12, .inl FX))] H ∧ va_D A [(mm, .inr (12, (.int i_thrown :: .ref m_s :: .ref m_spare :: .ref m_kept :: .ref m_undone :: .ref m_triedWay :: .ref m_isKept :: .int i_undoMany :: .ref m_tape :: .int i_length :: .int i_size :: .int i_p :: .int i_at :: .int i_token :: .int i_number :: .int i_letterMany :: .int i_fault :: .int i_faultAt :: .ref m_letters :: .int i_isKnown :: .ref m_choice :: .ref m_row :: .ref m_up :: .ref m_low :: .ref m_m :: .ref m_bestUp :: .ref m_bestLow :: .ref m_replyUp :: .ref m_replyLow :: .ref m_worthUp :: .ref m_worthLow :: .ref m_bestWay :: .int i_seed :: .ref m_told :: .int i_toldMany :: []))), (m_s, .inl (g 0, 193, .inl sf)), (m_choice, .inl (g 0, 12, .inl FX))] := ⟨_, rfl, hP, hD⟩
            have hP : va_P D vwCl [(mm, .inr (12, (.int i_thrown :: .ref m_s :: .ref m_spare :: .ref m_kept :: .ref m_undone :: .ref m_triedWay :: .ref m_isKept :: .int i_undoMany :: .ref m_tape :: .int i_length :: .int i_size :: .int i_p :: .int i_at :: .int i_token :: .int i_number :: .int i_letterMany :: .int i_fault :: .int i_faultAt :: .ref m_letters :: .int i_isKnown :: .ref m_choice :: .ref m_row :: .ref m_up :: .ref m_low :: .ref m_m :: .ref m_bestUp :: .ref m_bestLow :: .ref m_replyUp :: .ref m_replyLow :: .ref m_worthUp :: .ref m_worthLow :: .ref m_bestWay :: .int i_seed :: .ref m_told :: .int i_toldMany :: []))), (m_s, .inl (g 0, 193, .inl sf)), (m_choice, .inl (g 0, 12, .inl f_40496))] H := hP
            have hD : va_D A [(mm, .inr (12, (.int i_thrown :: .ref m_s :: .ref m_spare :: .ref m_kept :: .ref m_undone :: .ref m_triedWay :: .ref m_isKept :: .int i_undoMany :: .ref m_tape :: .int i_length :: .int i_size :: .int i_p :: .int i_at :: .int i_token :: .int i_number :: .int i_letterMany :: .int i_fault :: .int i_faultAt :: .ref m_letters :: .int i_isKnown :: .ref m_choice :: .ref m_row :: .ref m_up :: .ref m_low :: .ref m_m :: .ref m_bestUp :: .ref m_bestLow :: .ref m_replyUp :: .ref m_replyLow :: .ref m_worthUp :: .ref m_worthLow :: .ref m_bestWay :: .int i_seed :: .ref m_told :: .int i_toldMany :: []))), (m_s, .inl (g 0, 193, .inl sf)), (m_choice, .inl (g 0, 12, .inl f_40496))] := hD
            refine lv_aload_n hx hb dX12_nextPlan_47 rfl (lv_at hl 1 rfl) ?_
            refine va_get (D := D) (ci := 12) (v := .ref m_choice) (C := RX12) (T := TX12) (N := 35) hx hb hts inlX12 hown hK hP 0 rfl rfl 20 (by decide) (hts (Cond.fieldLink RX12 40 "ChanceRingsModel" "choice" "[I") qw_125) (fun _ h9 => h9) rfl dX12_nextPlan_48 ?_
            refine lv_iload_n hx hb dX12_nextPlan_51 rfl (lv_at hl 0 rfl) ?_
            refine va_iald hx hb hK hP 2 0 rfl rfl (tr_in h_40482 (by decide) (by decide)) dX12_nextPlan_52 ?_
            refine lv_topi (fun v_40497 v_40497_e => ?_)
            have g_v_40497 : v_40497 = f_40496 (x_40477.toInt.toNat) := v_40497_e.trans (congrArg f_40496 rfl)
            have gi_v_40497 := congrArg Int32.toInt g_v_40497
            have e5 : v_40497 = v_40495 := g_v_40497.trans (by rw [f_40496_e]; exact upd_at _ _ _)
            have e5_i := congrArg Int32.toInt e5
            refine lv_aload_n hx hb dX12_nextPlan_53 rfl (lv_at hl 1 rfl) ?_
            refine va_get (D := D) (ci := 12) (v := .ref m_s) (C := RX12) (T := TX12) (N := 35) hx hb hts inlX12 hown hK hP 0 rfl rfl 1 (by decide) (hts (Cond.fieldLink RX12 13 "ChanceRingsModel" "s" "[I") qw_73) (fun _ h9 => h9) rfl dX12_nextPlan_54 ?_
            refine lv_bipush (v := 25) hx hb dX12_nextPlan_57 (by decide) ?_
            refine lv_iload_n hx hb dX12_nextPlan_59 rfl (lv_at hl 0 rfl) ?_
            refine lv_iadd hx hb dX12_nextPlan_60 ?_
            refine lv_topi (fun v_40498 v_40498_e => ?_)
            have h_v_40498 : 25 ≤ (v_40498 : Int32).toInt ∧ (v_40498 : Int32).toInt ≤ 36 := by rw [v_40498_e]; exact tr_add (⟨by decide, by decide⟩ : 25 ≤ (25 : Int32).toInt ∧ (25 : Int32).toInt ≤ 25) h_40482 (by decide) (by decide) (by decide) (by decide)
            have q_v_40498 : v_40498.toInt = 25 + x_40477.toInt := by rw [v_40498_e]; exact (tr_addX (⟨by decide, by decide⟩ : 25 ≤ (25 : Int32).toInt ∧ (25 : Int32).toInt ≤ 25) h_40482 (by decide) (by decide)).trans (by rw [tk_25])
            refine va_iald hx hb hK hP 1 0 rfl rfl (tr_in h_v_40498 (by decide) (by decide)) dX12_nextPlan_61 ?_
            refine lv_topi (fun v_40499 v_40499_e => ?_)
            have h_v_40499 : 0 ≤ (v_40499 : Int32).toInt ∧ (v_40499 : Int32).toInt ≤ 3 := by rw [v_40499_e]; exact gr_ways hG.r (tr_w h_v_40498 (by decide) (by decide))
            have g_v_40499 : v_40499 = sf (25 + x_40477.toInt.toNat) := v_40499_e.trans (congrArg sf (by show Int.toNat _ = _; (first | (clear h_i_undoMany h_i_length h_i_size h_i_p h_i_at h_i_token h_i_number h_i_letterMany h_i_faultAt h_i_isKnown h_i_toldMany hw_40484 c_40485_i h_40487; omega) | omega)))
            have gi_v_40499 := congrArg Int32.toInt g_v_40499
            refine lv_icmp_ge (tgt := 67) hx hb dX12_nextPlan_62 (by decide) (fun c_40500 => ?_) (fun c_40500 => ?_)
            · skip
              have c_40500_i := Int32.le_iff_toInt_le.mp c_40500
              have h_40501 : 0 ≤ (v_40497 : Int32).toInt ∧ (v_40497 : Int32).toInt ≤ 2147483647 := nr_le_r h_v_40499 (tr_any v_40497) c_40500_i (by decide) (by decide)
              refine lv_aload_n hx hb dX12_nextPlan_67 rfl (lv_at hl 1 rfl) ?_
              refine va_get (D := D) (ci := 12) (v := .ref m_choice) (C := RX12) (T := TX12) (N := 35) hx hb hts inlX12 hown hK hP 0 rfl rfl 20 (by decide) (hts (Cond.fieldLink RX12 40 "ChanceRingsModel" "choice" "[I") qw_125) (fun _ h9 => h9) rfl dX12_nextPlan_68 ?_
              refine lv_iload_n hx hb dX12_nextPlan_71 rfl (lv_at hl 0 rfl) ?_
              refine lv_iconst (v := 0) hx hb dX12_nextPlan_72 (by decide) ?_
              refine va_iast hx hb hK hP hD hS 2 0 rfl rfl (tr_in h_40482 (by decide) (by decide)) dX12_nextPlan_73 (fun H locs hP hD hS => ?_)
              obtain ⟨f_40503, f_40503_e, hP, hD⟩ : ∃ FX : Nat → Int32, FX = (upd f_40496 (x_40477 : Int32).toNatClampNeg 0) ∧ va_P D vwCl [(mm, .inr (12, (.int i_thrown :: .ref m_s :: .ref m_spare :: .ref m_kept :: .ref m_undone :: .ref m_triedWay :: .ref m_isKept :: .int i_undoMany :: .ref m_tape :: .int i_length :: .int i_size :: .int i_p :: .int i_at :: .int i_token :: .int i_number :: .int i_letterMany :: .int i_fault :: .int i_faultAt :: .ref m_letters :: .int i_isKnown :: .ref m_choice :: .ref m_row :: .ref m_up :: .ref m_low :: .ref m_m :: .ref m_bestUp :: .ref m_bestLow :: .ref m_replyUp :: .ref m_replyLow :: .ref m_worthUp :: .ref m_worthLow :: .ref m_bestWay :: .int i_seed :: .ref m_told :: .int i_toldMany :: []))), (m_s, .inl (g 0, 193, .inl sf)), (m_choice, .inl (g 0, 12, .inl FX))] H ∧ va_D A [(mm, .inr (12, (.int i_thrown :: .ref m_s :: .ref m_spare :: .ref m_kept :: .ref m_undone :: .ref m_triedWay :: .ref m_isKept :: .int i_undoMany :: .ref m_tape :: .int i_length :: .int i_size :: .int i_p :: .int i_at :: .int i_token :: .int i_number :: .int i_letterMany :: .int i_fault :: .int i_faultAt :: .ref m_letters :: .int i_isKnown :: .ref m_choice :: .ref m_row :: .ref m_up :: .ref m_low :: .ref m_m :: .ref m_bestUp :: .ref m_bestLow :: .ref m_replyUp :: .ref m_replyLow :: .ref m_worthUp :: .ref m_worthLow :: .ref m_bestWay :: .int i_seed :: .ref m_told :: .int i_toldMany :: []))), (m_s, .inl (g 0, 193, .inl sf)), (m_choice, .inl (g 0, 12, .inl FX))] := ⟨_, rfl, hP, hD⟩
              have hP : va_P D vwCl [(mm, .inr (12, (.int i_thrown :: .ref m_s :: .ref m_spare :: .ref m_kept :: .ref m_undone :: .ref m_triedWay :: .ref m_isKept :: .int i_undoMany :: .ref m_tape :: .int i_length :: .int i_size :: .int i_p :: .int i_at :: .int i_token :: .int i_number :: .int i_letterMany :: .int i_fault :: .int i_faultAt :: .ref m_letters :: .int i_isKnown :: .ref m_choice :: .ref m_row :: .ref m_up :: .ref m_low :: .ref m_m :: .ref m_bestUp :: .ref m_bestLow :: .ref m_replyUp :: .ref m_replyLow :: .ref m_worthUp :: .ref m_worthLow :: .ref m_bestWay :: .int i_seed :: .ref m_told :: .int i_toldMany :: []))), (m_s, .inl (g 0, 193, .inl sf)), (m_choice, .inl (g 0, 12, .inl f_40503))] H := hP
              have hD : va_D A [(mm, .inr (12, (.int i_thrown :: .ref m_s :: .ref m_spare :: .ref m_kept :: .ref m_undone :: .ref m_triedWay :: .ref m_isKept :: .int i_undoMany :: .ref m_tape :: .int i_length :: .int i_size :: .int i_p :: .int i_at :: .int i_token :: .int i_number :: .int i_letterMany :: .int i_fault :: .int i_faultAt :: .ref m_letters :: .int i_isKnown :: .ref m_choice :: .ref m_row :: .ref m_up :: .ref m_low :: .ref m_m :: .ref m_bestUp :: .ref m_bestLow :: .ref m_replyUp :: .ref m_replyLow :: .ref m_worthUp :: .ref m_worthLow :: .ref m_bestWay :: .int i_seed :: .ref m_told :: .int i_toldMany :: []))), (m_s, .inl (g 0, 193, .inl sf)), (m_choice, .inl (g 0, 12, .inl f_40503))] := hD
              have h_40504 : ∀ j : Nat, 0 ≤ (f_40503 j).toInt ∧ (f_40503 j).toInt ≤ 2 := tr_upd2 h_f_40478 f_40496_e f_40503_e ⟨by decide, by decide⟩
              obtain ⟨v_40505, v_40505_e⟩ : ∃ y : Int32, y = x_40477 + Int32.ofInt (-1) := ⟨_, rfl⟩
              have h_v_40505 : (-1) ≤ (v_40505 : Int32).toInt ∧ (v_40505 : Int32).toInt ≤ 10 := by rw [v_40505_e]; exact tr_add h_40482 (⟨by decide, by decide⟩ : (-1) ≤ (Int32.ofInt (-1) : Int32).toInt ∧ (Int32.ofInt (-1) : Int32).toInt ≤ (-1)) (by decide) (by decide) (by decide) (by decide)
              have q_v_40505 : v_40505.toInt = x_40477.toInt + (-1) := by rw [v_40505_e]; exact tr_addE h_40482 (⟨by decide, by decide⟩ : (-1) ≤ (Int32.ofInt (-1) : Int32).toInt ∧ (Int32.ofInt (-1) : Int32).toInt ≤ (-1)) (by decide) (by decide)
              refine lv_iinc (v := v_40505) (lv' := [(2, .int v_40505), (0, .ref mm), (1, .int 1)]) hx hb dX12_nextPlan_74 hl (k := 0) rfl v_40505_e.symm (by decide) rfl (fun ls hl => ?_)
              refine lv_goto (tgt := 9) hx hb dX12_nextPlan_77 (by decide) ?_
              exact ih_40479 v_40505 f_40503 H _ ls (tr_w h_v_40505 (by decide) (by decide)) (tr_wa h_40504 (by decide) (by decide)) (NPi_wrap (k := x_40477.toInt.toNat) hr40479_0 hL (by (first | (clear h_i_undoMany h_i_length h_i_size h_i_p h_i_at h_i_token h_i_number h_i_letterMany h_i_faultAt h_i_isKnown h_i_toldMany hw_40484 c_40485_i h_40487; omega) | omega)) (by have z_d := tk_1; have z_0 := tk_0; (first | (clear h_i_undoMany h_i_length h_i_size h_i_p h_i_at h_i_token h_i_number h_i_letterMany h_i_faultAt h_i_isKnown h_i_toldMany hw_40484 c_40485_i h_40487; omega) | omega)) (by have z_d := tk_1; have z_0 := tk_0; (first | (clear h_i_undoMany h_i_length h_i_size h_i_p h_i_at h_i_token h_i_number h_i_letterMany h_i_faultAt h_i_isKnown h_i_toldMany hw_40484 c_40485_i h_40487; omega) | omega)) f_40496_e f_40503_e g_v_40494 (by (first | (clear h_i_undoMany h_i_length h_i_size h_i_p h_i_at h_i_token h_i_number h_i_letterMany h_i_faultAt h_i_isKnown h_i_toldMany hw_40484 c_40485_i h_40487; omega) | omega)) (by (first | (clear h_i_undoMany h_i_length h_i_size h_i_p h_i_at h_i_token h_i_number h_i_letterMany h_i_faultAt h_i_isKnown h_i_toldMany hw_40484 c_40485_i h_40487; omega) | omega)) (by (first | (clear h_i_undoMany h_i_length h_i_size h_i_p h_i_at h_i_token h_i_number h_i_letterMany h_i_faultAt h_i_isKnown h_i_toldMany hw_40484 c_40485_i h_40487; omega) | omega)) (by (first | (clear h_i_undoMany h_i_length h_i_size h_i_p h_i_at h_i_token h_i_number h_i_letterMany h_i_faultAt h_i_isKnown h_i_toldMany hw_40484 c_40485_i h_40487; omega) | omega))) (by have z_0 := tk_0; (first | (clear h_i_undoMany h_i_length h_i_size h_i_p h_i_at h_i_token h_i_number h_i_letterMany h_i_faultAt h_i_isKnown h_i_toldMany hw_40484 c_40485_i h_40487; omega) | omega)) (by (first | (clear h_i_undoMany h_i_length h_i_size h_i_p h_i_at h_i_token h_i_number h_i_letterMany h_i_faultAt h_i_isKnown h_i_toldMany hw_40484 c_40485_i h_40487; omega) | omega)) (hP.sub [0, 1, 2] rfl) (hD.sub [0, 1, 2] (by decide) rfl) hS (lv_sub hl [0, 1, 2] rfl)
            · skip
              have c_40500_i := Int32.lt_iff_toInt_lt.mp (Int32.not_le.mp c_40500)
              have h_40502 : (-2147483648) ≤ (v_40497 : Int32).toInt ∧ (v_40497 : Int32).toInt ≤ 2 := nr_lt_l (tr_any v_40497) h_v_40499 c_40500_i (by decide) (by decide)
              have h_40506 : ∀ j : Nat, 0 ≤ (f_40496 j).toInt ∧ (f_40496 j).toInt ≤ 2 := tr_upd1 h_f_40478 f_40496_e (by (first | (clear h_i_undoMany h_i_length h_i_size h_i_p h_i_at h_i_token h_i_number h_i_letterMany h_i_faultAt h_i_isKnown h_i_toldMany hw_40484 c_40485_i h_40487; omega) | omega))
              refine lv_iconst (v := 1) hx hb dX12_nextPlan_65 (by decide) ?_
              have hP9 := hP.sub (ws' := [(mm, .inr (12, (.int i_thrown :: .ref m_s :: .ref m_spare :: .ref m_kept :: .ref m_undone :: .ref m_triedWay :: .ref m_isKept :: .int i_undoMany :: .ref m_tape :: .int i_length :: .int i_size :: .int i_p :: .int i_at :: .int i_token :: .int i_number :: .int i_letterMany :: .int i_fault :: .int i_faultAt :: .ref m_letters :: .int i_isKnown :: .ref m_choice :: .ref m_row :: .ref m_up :: .ref m_low :: .ref m_m :: .ref m_bestUp :: .ref m_bestLow :: .ref m_replyUp :: .ref m_replyLow :: .ref m_worthUp :: .ref m_worthLow :: .ref m_bestWay :: .int i_seed :: .ref m_told :: .int i_toldMany :: []))), (m_s, .inl (g 0, 193, .inl sf)), (m_choice, .inl (g 0, 12, .inl f_40496))]) [0, 1, 2] rfl
              have hD9 := hD.sub (ws' := [(mm, .inr (12, (.int i_thrown :: .ref m_s :: .ref m_spare :: .ref m_kept :: .ref m_undone :: .ref m_triedWay :: .ref m_isKept :: .int i_undoMany :: .ref m_tape :: .int i_length :: .int i_size :: .int i_p :: .int i_at :: .int i_token :: .int i_number :: .int i_letterMany :: .int i_fault :: .int i_faultAt :: .ref m_letters :: .int i_isKnown :: .ref m_choice :: .ref m_row :: .ref m_up :: .ref m_low :: .ref m_m :: .ref m_bestUp :: .ref m_bestLow :: .ref m_replyUp :: .ref m_replyLow :: .ref m_worthUp :: .ref m_worthLow :: .ref m_bestWay :: .int i_seed :: .ref m_told :: .int i_toldMany :: []))), (m_s, .inl (g 0, 193, .inl sf)), (m_choice, .inl (g 0, 12, .inl f_40496))]) [0, 1, 2] (by decide) rfl
              exact W.zret (v := 1) hx hb hr (by decide) (fun t ht hW => ⟨⟨1, 1, rfl, ⟨rfl, (⟨by decide, by decide⟩ : 0 ≤ (1 : Int32).toInt ∧ (1 : Int32).toInt ≤ 1)⟩, f_40496, (tr_wa h_40506 (by decide) (by decide)), (NPr_next (k := x_40477.toInt.toNat) hG (by decide) hr40479_0 hL (by (first | (clear h_i_undoMany h_i_length h_i_size h_i_p h_i_at h_i_token h_i_number h_i_letterMany h_i_faultAt h_i_isKnown h_i_toldMany hw_40484 c_40485_i h_40487; omega) | omega)) (by have z_d := tk_1; have z_0 := tk_0; (first | (clear h_i_undoMany h_i_length h_i_size h_i_p h_i_at h_i_token h_i_number h_i_letterMany h_i_faultAt h_i_isKnown h_i_toldMany hw_40484 c_40485_i h_40487; omega) | omega)) (by have z_d := tk_1; have z_0 := tk_0; (first | (clear h_i_undoMany h_i_length h_i_size h_i_p h_i_at h_i_token h_i_number h_i_letterMany h_i_faultAt h_i_isKnown h_i_toldMany hw_40484 c_40485_i h_40487; omega) | omega)) f_40496_e g_v_40494 (by (first | (clear h_i_undoMany h_i_length h_i_size h_i_p h_i_at h_i_token h_i_number h_i_letterMany h_i_faultAt h_i_isKnown h_i_toldMany hw_40484 c_40485_i h_40487; omega) | omega)) (by (first | (clear h_i_undoMany h_i_length h_i_size h_i_p h_i_at h_i_token h_i_number h_i_letterMany h_i_faultAt h_i_isKnown h_i_toldMany hw_40484 c_40485_i h_40487; omega) | omega)) (by (first | (clear h_i_undoMany h_i_length h_i_size h_i_p h_i_at h_i_token h_i_number h_i_letterMany h_i_faultAt h_i_isKnown h_i_toldMany hw_40484 c_40485_i h_40487; omega) | omega)) (by decide)), by rw [ht]; exact hP9, hD9⟩, hS.F ht⟩) hS.2.2 dX12_nextPlan_66
          · skip
            have c_40491_i := Int32.le_iff_toInt_le.mp (Int32.not_lt.mp c_40491)
            have h_40493 : 0 ≤ (v_40490 : Int32).toInt ∧ (v_40490 : Int32).toInt ≤ 2 := nr_le_r (⟨by decide, by decide⟩ : 0 ≤ (0 : Int32).toInt ∧ (0 : Int32).toInt ≤ 0) h_v_40490 c_40491_i (by decide) (by decide)
            refine lv_goto (tgt := 74) hx hb dX12_nextPlan_34 (by decide) ?_
            obtain ⟨v_40507, v_40507_e⟩ : ∃ y : Int32, y = x_40477 + Int32.ofInt (-1) := ⟨_, rfl⟩
            have h_v_40507 : (-1) ≤ (v_40507 : Int32).toInt ∧ (v_40507 : Int32).toInt ≤ 10 := by rw [v_40507_e]; exact tr_add h_40482 (⟨by decide, by decide⟩ : (-1) ≤ (Int32.ofInt (-1) : Int32).toInt ∧ (Int32.ofInt (-1) : Int32).toInt ≤ (-1)) (by decide) (by decide) (by decide) (by decide)
            have q_v_40507 : v_40507.toInt = x_40477.toInt + (-1) := by rw [v_40507_e]; exact tr_addE h_40482 (⟨by decide, by decide⟩ : (-1) ≤ (Int32.ofInt (-1) : Int32).toInt ∧ (Int32.ofInt (-1) : Int32).toInt ≤ (-1)) (by decide) (by decide)
            refine lv_iinc (v := v_40507) (lv' := [(2, .int v_40507), (0, .ref mm), (1, .int 1)]) hx hb dX12_nextPlan_74 hl (k := 0) rfl v_40507_e.symm (by decide) rfl (fun ls hl => ?_)
            refine lv_goto (tgt := 9) hx hb dX12_nextPlan_77 (by decide) ?_
            exact ih_40479 v_40507 f_40478 H _ ls (tr_w h_v_40507 (by decide) (by decide)) (tr_wa h_f_40478 (by decide) (by decide)) (NPi_skip (k := x_40477.toInt.toNat) hr40479_0 (by have z_d := tk_1; have z_0 := tk_0; (first | (clear h_i_undoMany h_i_length h_i_size h_i_p h_i_at h_i_token h_i_number h_i_letterMany h_i_faultAt h_i_isKnown h_i_toldMany hw_40484 c_40485_i h_40487; omega) | omega)) (by (first | (clear h_i_undoMany h_i_length h_i_size h_i_p h_i_at h_i_token h_i_number h_i_letterMany h_i_faultAt h_i_isKnown h_i_toldMany hw_40484 c_40485_i h_40487; omega) | omega)) (by (first | (clear h_i_undoMany h_i_length h_i_size h_i_p h_i_at h_i_token h_i_number h_i_letterMany h_i_faultAt h_i_isKnown h_i_toldMany hw_40484 c_40485_i h_40487; omega) | omega))) (by have z_0 := tk_0; (first | (clear h_i_undoMany h_i_length h_i_size h_i_p h_i_at h_i_token h_i_number h_i_letterMany h_i_faultAt h_i_isKnown h_i_toldMany hw_40484 c_40485_i h_40487; omega) | omega)) (by (first | (clear h_i_undoMany h_i_length h_i_size h_i_p h_i_at h_i_token h_i_number h_i_letterMany h_i_faultAt h_i_isKnown h_i_toldMany hw_40484 c_40485_i h_40487; omega) | omega)) (hP.sub [0, 1, 2] rfl) (hD.sub [0, 1, 2] (by decide) rfl) hS (lv_sub hl [0, 1, 2] rfl)
  exact lp_40479 13 v_40417 chf s.heap _ ls (tr_w h_v_40417 (by decide) (by decide)) (tr_wa h_chf (by decide) (by decide)) (NPi_start (by have z_0 := tk_0; (first | (clear h_i_undoMany h_i_length h_i_size h_i_p h_i_at h_i_token h_i_number h_i_letterMany h_i_faultAt h_i_isKnown h_i_toldMany; omega) | omega))) (by have z_0 := tk_0; (first | (clear h_i_undoMany h_i_length h_i_size h_i_p h_i_at h_i_token h_i_number h_i_letterMany h_i_faultAt h_i_isKnown h_i_toldMany; omega) | omega)) (by (first | (clear h_i_undoMany h_i_length h_i_size h_i_p h_i_at h_i_token h_i_number h_i_letterMany h_i_faultAt h_i_isKnown h_i_toldMany; omega) | omega)) (hP.sub [0, 1, 2] rfl) (hD.sub [0, 1, 2] (by decide) rfl) hS (lv_sub hl [0, 1, 2] rfl)
set_option maxHeartbeats 4000000 in
set_option maxRecDepth 100000 in
theorem c_X12_firstPlan2 (l : Launch) (D : va_G) (g : Nat → ClassId) (sz : Nat) (mm : Nat) (i_thrown : Int32) (m_s : Nat) (m_spare : Nat) (m_kept : Nat) (m_undone : Nat) (m_triedWay : Nat) (m_isKept : Nat) (i_undoMany : Int32) (m_tape : Nat) (i_length : Int32) (i_size : Int32) (i_p : Int32) (i_at : Int32) (i_token : Int32) (i_number : Int32) (i_letterMany : Int32) (i_fault : Int32) (i_faultAt : Int32) (m_letters : Nat) (i_isKnown : Int32) (m_choice : Nat) (m_row : Nat) (m_up : Nat) (m_low : Nat) (m_m : Nat) (m_bestUp : Nat) (m_bestLow : Nat) (m_replyUp : Nat) (m_replyLow : Nat) (m_worthUp : Nat) (m_worthLow : Nat) (m_bestWay : Nat) (i_seed : Int32) (m_told : Nat) (i_toldMany : Int32) (sf : Nat → Int32) (chf : Nat → Int32) (h_i_undoMany : 0 ≤ (i_undoMany : Int32).toInt ∧ (i_undoMany : Int32).toInt ≤ 8) (h_i_length : 0 ≤ (i_length : Int32).toInt ∧ (i_length : Int32).toInt ≤ 440) (h_i_size : 0 ≤ (i_size : Int32).toInt ∧ (i_size : Int32).toInt ≤ 440) (h_i_p : 0 ≤ (i_p : Int32).toInt ∧ (i_p : Int32).toInt ≤ 440) (h_i_at : 0 ≤ (i_at : Int32).toInt ∧ (i_at : Int32).toInt ≤ 440) (h_i_token : 0 ≤ (i_token : Int32).toInt ∧ (i_token : Int32).toInt ≤ 4) (h_i_number : 0 ≤ (i_number : Int32).toInt ∧ (i_number : Int32).toInt ≤ 814) (h_i_letterMany : (-440) ≤ (i_letterMany : Int32).toInt ∧ (i_letterMany : Int32).toInt ≤ 440) (h_i_faultAt : 0 ≤ (i_faultAt : Int32).toInt ∧ (i_faultAt : Int32).toInt ≤ 440) (h_i_isKnown : 0 ≤ (i_isKnown : Int32).toInt ∧ (i_isKnown : Int32).toInt ≤ 1) (h_i_toldMany : 0 ≤ (i_toldMany : Int32).toInt ∧ (i_toldMany : Int32).toInt ≤ 900) (h_chf : ∀ j : Nat, 0 ≤ (chf j).toInt ∧ (chf j).toInt ≤ 2) (hG : GS sf) : Met l yX12_firstPlan (.code yX12_firstPlan cX12_firstPlan 3 none :: wsL_law) ({ frames := 1, cells := 0, slots := 0, locals := 22 }) (va_Pc [.ref mm, .int 2] (fun U => U.heap.size = sz ∧ va_P D vwCl [(mm, .inr (12, (.int i_thrown :: .ref m_s :: .ref m_spare :: .ref m_kept :: .ref m_undone :: .ref m_triedWay :: .ref m_isKept :: .int i_undoMany :: .ref m_tape :: .int i_length :: .int i_size :: .int i_p :: .int i_at :: .int i_token :: .int i_number :: .int i_letterMany :: .int i_fault :: .int i_faultAt :: .ref m_letters :: .int i_isKnown :: .ref m_choice :: .ref m_row :: .ref m_up :: .ref m_low :: .ref m_m :: .ref m_bestUp :: .ref m_bestLow :: .ref m_replyUp :: .ref m_replyLow :: .ref m_worthUp :: .ref m_worthLow :: .ref m_bestWay :: .int i_seed :: .ref m_told :: .int i_toldMany :: []))), (m_s, .inl (g 0, 193, .inl sf)), (m_choice, .inl (g 0, 12, .inl chf))] U.heap ∧ va_K D vwCl (TY g) U ∧ va_D (fun _ => True) [(mm, .inr (12, (.int i_thrown :: .ref m_s :: .ref m_spare :: .ref m_kept :: .ref m_undone :: .ref m_triedWay :: .ref m_isKept :: .int i_undoMany :: .ref m_tape :: .int i_length :: .int i_size :: .int i_p :: .int i_at :: .int i_token :: .int i_number :: .int i_letterMany :: .int i_fault :: .int i_faultAt :: .ref m_letters :: .int i_isKnown :: .ref m_choice :: .ref m_row :: .ref m_up :: .ref m_low :: .ref m_m :: .ref m_bestUp :: .ref m_bestLow :: .ref m_replyUp :: .ref m_replyLow :: .ref m_worthUp :: .ref m_worthLow :: .ref m_bestWay :: .int i_seed :: .ref m_told :: .int i_toldMany :: []))), (m_s, .inl (g 0, 193, .inl sf)), (m_choice, .inl (g 0, 12, .inl chf))])) (va_Qv (fun (_ : Unit) => True) (fun _ t => ∃ ochf : Nat → Int32, (∀ j : Nat, 0 ≤ (ochf j).toInt ∧ (ochf j).toInt ≤ 2) ∧ (LGd sf 2 ochf) ∧ (OTH sf 2 chf ochf) ∧ (NUM sf 2 ochf (sf 0).toInt.toNat = 0) ∧ va_P D vwCl [(mm, .inr (12, (.int i_thrown :: .ref m_s :: .ref m_spare :: .ref m_kept :: .ref m_undone :: .ref m_triedWay :: .ref m_isKept :: .int i_undoMany :: .ref m_tape :: .int i_length :: .int i_size :: .int i_p :: .int i_at :: .int i_token :: .int i_number :: .int i_letterMany :: .int i_fault :: .int i_faultAt :: .ref m_letters :: .int i_isKnown :: .ref m_choice :: .ref m_row :: .ref m_up :: .ref m_low :: .ref m_m :: .ref m_bestUp :: .ref m_bestLow :: .ref m_replyUp :: .ref m_replyLow :: .ref m_worthUp :: .ref m_worthLow :: .ref m_bestWay :: .int i_seed :: .ref m_told :: .int i_toldMany :: []))), (m_s, .inl (g 0, 193, .inl sf)), (m_choice, .inl (g 0, 12, .inl ochf))] t.heap ∧ va_D (va_A [(mm, .inr (12, (.int i_thrown :: .ref m_s :: .ref m_spare :: .ref m_kept :: .ref m_undone :: .ref m_triedWay :: .ref m_isKept :: .int i_undoMany :: .ref m_tape :: .int i_length :: .int i_size :: .int i_p :: .int i_at :: .int i_token :: .int i_number :: .int i_letterMany :: .int i_fault :: .int i_faultAt :: .ref m_letters :: .int i_isKnown :: .ref m_choice :: .ref m_row :: .ref m_up :: .ref m_low :: .ref m_m :: .ref m_bestUp :: .ref m_bestLow :: .ref m_replyUp :: .ref m_replyLow :: .ref m_worthUp :: .ref m_worthLow :: .ref m_bestWay :: .int i_seed :: .ref m_told :: .int i_toldMany :: []))), (m_s, .inl (g 0, 193, .inl sf)), (m_choice, .inl (g 0, 12, .inl chf))] sz) [(mm, .inr (12, (.int i_thrown :: .ref m_s :: .ref m_spare :: .ref m_kept :: .ref m_undone :: .ref m_triedWay :: .ref m_isKept :: .int i_undoMany :: .ref m_tape :: .int i_length :: .int i_size :: .int i_p :: .int i_at :: .int i_token :: .int i_number :: .int i_letterMany :: .int i_fault :: .int i_faultAt :: .ref m_letters :: .int i_isKnown :: .ref m_choice :: .ref m_row :: .ref m_up :: .ref m_low :: .ref m_m :: .ref m_bestUp :: .ref m_bestLow :: .ref m_replyUp :: .ref m_replyLow :: .ref m_worthUp :: .ref m_worthLow :: .ref m_bestWay :: .int i_seed :: .ref m_told :: .int i_toldMany :: []))), (m_s, .inl (g 0, 193, .inl sf)), (m_choice, .inl (g 0, 12, .inl ochf))]) (va_A [(mm, .inr (12, (.int i_thrown :: .ref m_s :: .ref m_spare :: .ref m_kept :: .ref m_undone :: .ref m_triedWay :: .ref m_isKept :: .int i_undoMany :: .ref m_tape :: .int i_length :: .int i_size :: .int i_p :: .int i_at :: .int i_token :: .int i_number :: .int i_letterMany :: .int i_fault :: .int i_faultAt :: .ref m_letters :: .int i_isKnown :: .ref m_choice :: .ref m_row :: .ref m_up :: .ref m_low :: .ref m_m :: .ref m_bestUp :: .ref m_bestLow :: .ref m_replyUp :: .ref m_replyLow :: .ref m_worthUp :: .ref m_worthLow :: .ref m_bestWay :: .int i_seed :: .ref m_told :: .int i_toldMany :: []))), (m_s, .inl (g 0, 193, .inl sf)), (m_choice, .inl (g 0, 12, .inl chf))] sz)) 0 0 (va_A [(mm, .inr (12, (.int i_thrown :: .ref m_s :: .ref m_spare :: .ref m_kept :: .ref m_undone :: .ref m_triedWay :: .ref m_isKept :: .int i_undoMany :: .ref m_tape :: .int i_length :: .int i_size :: .int i_p :: .int i_at :: .int i_token :: .int i_number :: .int i_letterMany :: .int i_fault :: .int i_faultAt :: .ref m_letters :: .int i_isKnown :: .ref m_choice :: .ref m_row :: .ref m_up :: .ref m_low :: .ref m_m :: .ref m_bestUp :: .ref m_bestLow :: .ref m_replyUp :: .ref m_replyLow :: .ref m_worthUp :: .ref m_worthLow :: .ref m_bestWay :: .int i_seed :: .ref m_told :: .int i_toldMany :: []))), (m_s, .inl (g 0, 193, .inl sf)), (m_choice, .inl (g 0, 12, .inl chf))] sz) := by
  refine Met.ofW (cc := cX12_firstPlan) (maxL := 3) (ret := none) (by decide) rfl ?_
  intro p e s m args below meth c s₁ B hml hv
  obtain ⟨ha, hsz, hP, hK, hD0⟩ := hv
  have hx := B.exec
  have hb := B.bytes
  have hr := B.returns
  have hts0 := atoms_spec (ws := (.code yX12_firstPlan cX12_firstPlan 3 none :: wsL_law)) B.pre
  have hts : ∀ w ∈ wsL_law, w.before args s = true := fun w h => hts0 w (List.mem_cons_of_mem _ h)
  have hown : s.vm.findClass RX12 = some m.cls := findClass_of_methodNamed B.named
  have hlocks := B.notSynchronized
  subst hsz
  have hD := hD0.self (sz := s.heap.size)
  generalize hAe : va_A [(mm, .inr (12, (.int i_thrown :: .ref m_s :: .ref m_spare :: .ref m_kept :: .ref m_undone :: .ref m_triedWay :: .ref m_isKept :: .int i_undoMany :: .ref m_tape :: .int i_length :: .int i_size :: .int i_p :: .int i_at :: .int i_token :: .int i_number :: .int i_letterMany :: .int i_fault :: .int i_faultAt :: .ref m_letters :: .int i_isKnown :: .ref m_choice :: .ref m_row :: .ref m_up :: .ref m_low :: .ref m_m :: .ref m_bestUp :: .ref m_bestLow :: .ref m_replyUp :: .ref m_replyLow :: .ref m_worthUp :: .ref m_worthLow :: .ref m_bestWay :: .int i_seed :: .ref m_told :: .int i_toldMany :: []))), (m_s, .inl (g 0, 193, .inl sf)), (m_choice, .inl (g 0, 12, .inl chf))] s.heap.size = A at hD ⊢
  have hA : ∀ q : Nat, s.heap.size ≤ q → A q := fun q h => by rw [← hAe]; exact Or.inr h
  have hS : va_S A s.heap s.heap [] := va_S.rf
  have hP : va_P D vwCl [(mm, .inr (12, (.int i_thrown :: .ref m_s :: .ref m_spare :: .ref m_kept :: .ref m_undone :: .ref m_triedWay :: .ref m_isKept :: .int i_undoMany :: .ref m_tape :: .int i_length :: .int i_size :: .int i_p :: .int i_at :: .int i_token :: .int i_number :: .int i_letterMany :: .int i_fault :: .int i_faultAt :: .ref m_letters :: .int i_isKnown :: .ref m_choice :: .ref m_row :: .ref m_up :: .ref m_low :: .ref m_m :: .ref m_bestUp :: .ref m_bestLow :: .ref m_replyUp :: .ref m_replyLow :: .ref m_worthUp :: .ref m_worthLow :: .ref m_bestWay :: .int i_seed :: .ref m_told :: .int i_toldMany :: []))), (m_s, .inl (g 0, 193, .inl sf)), (m_choice, .inl (g 0, 12, .inl chf))] s.heap := hP
  refine W.eq (g2 := entryFrame m ([.ref mm, .int 2] : List Value).toArray 3) (by rw [ha]) ?_
  have hl := lv_entry ([.ref mm, .int 2]) (n := 3) (Nat.le_of_ble_eq_true rfl)
  rw [lg_entry_eq]
  generalize (lg_sl ([.ref mm, .int 2]) ++ List.replicate (3 - (lg_sl ([.ref mm, .int 2])).length) Slot.unset).toArray = ls at hl ⊢
  have hl : lv_has ls 3 [(0, .ref mm), (1, .int 2)] := hl
  have gn9 := hG.r.1
  refine lv_iconst (v := 0) hx hb dX12_firstPlan_0 (by decide) ?_
  refine lv_istore_n (lv' := [(2, .int 0), (0, .ref mm), (1, .int 2)]) hx hb dX12_firstPlan_1 rfl hl (by decide) rfl (fun ls hl => ?_)
  have lp_40553 : ∀ (n_40553 : Nat) (x_40551 : Int32) (f_40552 : Nat → Int32) (H : Heap) (locs : List Loc) (ls : Array Slot), (0 ≤ (x_40551 : Int32).toInt ∧ (x_40551 : Int32).toInt ≤ 12) → (∀ j : Nat, 0 ≤ (f_40552 j).toInt ∧ (f_40552 j).toInt ≤ 2) → (FPi sf 2 chf f_40552 x_40551.toInt.toNat) → (x_40551.toInt ≤ (sf 0).toInt) → (12 - x_40551.toInt < (n_40553 : Int)) → va_P D vwCl [(mm, .inr (12, (.int i_thrown :: .ref m_s :: .ref m_spare :: .ref m_kept :: .ref m_undone :: .ref m_triedWay :: .ref m_isKept :: .int i_undoMany :: .ref m_tape :: .int i_length :: .int i_size :: .int i_p :: .int i_at :: .int i_token :: .int i_number :: .int i_letterMany :: .int i_fault :: .int i_faultAt :: .ref m_letters :: .int i_isKnown :: .ref m_choice :: .ref m_row :: .ref m_up :: .ref m_low :: .ref m_m :: .ref m_bestUp :: .ref m_bestLow :: .ref m_replyUp :: .ref m_replyLow :: .ref m_worthUp :: .ref m_worthLow :: .ref m_bestWay :: .int i_seed :: .ref m_told :: .int i_toldMany :: []))), (m_s, .inl (g 0, 193, .inl sf)), (m_choice, .inl (g 0, 12, .inl f_40552))] H → va_D A [(mm, .inr (12, (.int i_thrown :: .ref m_s :: .ref m_spare :: .ref m_kept :: .ref m_undone :: .ref m_triedWay :: .ref m_isKept :: .int i_undoMany :: .ref m_tape :: .int i_length :: .int i_size :: .int i_p :: .int i_at :: .int i_token :: .int i_number :: .int i_letterMany :: .int i_fault :: .int i_faultAt :: .ref m_letters :: .int i_isKnown :: .ref m_choice :: .ref m_row :: .ref m_up :: .ref m_low :: .ref m_m :: .ref m_bestUp :: .ref m_bestLow :: .ref m_replyUp :: .ref m_replyLow :: .ref m_worthUp :: .ref m_worthLow :: .ref m_bestWay :: .int i_seed :: .ref m_told :: .int i_toldMany :: []))), (m_s, .inl (g 0, 193, .inl sf)), (m_choice, .inl (g 0, 12, .inl f_40552))] → va_S A s.heap H locs → lv_has ls 3 [(2, .int x_40551), (0, .ref mm), (1, .int 2)] → W p l e (headSpec (.code yX12_firstPlan cX12_firstPlan 3 none :: wsL_law) ({ frames := 1, cells := 0, slots := 0, locals := 22 })).room s m args below meth c H locs 0 0 (MQ below (va_Qv (fun (_ : Unit) => True) (fun _ t => ∃ ochf : Nat → Int32, (∀ j : Nat, 0 ≤ (ochf j).toInt ∧ (ochf j).toInt ≤ 2) ∧ (LGd sf 2 ochf) ∧ (OTH sf 2 chf ochf) ∧ (NUM sf 2 ochf (sf 0).toInt.toNat = 0) ∧ va_P D vwCl [(mm, .inr (12, (.int i_thrown :: .ref m_s :: .ref m_spare :: .ref m_kept :: .ref m_undone :: .ref m_triedWay :: .ref m_isKept :: .int i_undoMany :: .ref m_tape :: .int i_length :: .int i_size :: .int i_p :: .int i_at :: .int i_token :: .int i_number :: .int i_letterMany :: .int i_fault :: .int i_faultAt :: .ref m_letters :: .int i_isKnown :: .ref m_choice :: .ref m_row :: .ref m_up :: .ref m_low :: .ref m_m :: .ref m_bestUp :: .ref m_bestLow :: .ref m_replyUp :: .ref m_replyLow :: .ref m_worthUp :: .ref m_worthLow :: .ref m_bestWay :: .int i_seed :: .ref m_told :: .int i_toldMany :: []))), (m_s, .inl (g 0, 193, .inl sf)), (m_choice, .inl (g 0, 12, .inl ochf))] t.heap ∧ va_D A [(mm, .inr (12, (.int i_thrown :: .ref m_s :: .ref m_spare :: .ref m_kept :: .ref m_undone :: .ref m_triedWay :: .ref m_isKept :: .int i_undoMany :: .ref m_tape :: .int i_length :: .int i_size :: .int i_p :: .int i_at :: .int i_token :: .int i_number :: .int i_letterMany :: .int i_fault :: .int i_faultAt :: .ref m_letters :: .int i_isKnown :: .ref m_choice :: .ref m_row :: .ref m_up :: .ref m_low :: .ref m_m :: .ref m_bestUp :: .ref m_bestLow :: .ref m_replyUp :: .ref m_replyLow :: .ref m_worthUp :: .ref m_worthLow :: .ref m_bestWay :: .int i_seed :: .ref m_told :: .int i_toldMany :: []))), (m_s, .inl (g 0, 193, .inl sf)), (m_choice, .inl (g 0, 12, .inl ochf))]) A) args s 0 0 A) (F0 m 2 ls []) := by
    intro n_40553
    induction n_40553 with
    | zero =>
      intro x_40551 f_40552 H locs ls h_x_40551 h_f_40552 hr40553_0 hr40553_1 hm_40553 hP hD hS hl
      exfalso; omega
    | succ n_40553 ih_40553 =>
      intro x_40551 f_40552 H locs ls h_x_40551 h_f_40552 hr40553_0 hr40553_1 hm_40553 hP hD hS hl
      refine lv_iload_n hx hb dX12_firstPlan_2 rfl (lv_at hl 0 rfl) ?_
      refine lv_aload_n hx hb dX12_firstPlan_3 rfl (lv_at hl 1 rfl) ?_
      refine va_get (D := D) (ci := 12) (v := .ref m_s) (C := RX12) (T := TX12) (N := 35) hx hb hts inlX12 hown hK hP 0 rfl rfl 1 (by decide) (hts (Cond.fieldLink RX12 13 "ChanceRingsModel" "s" "[I") qw_73) (fun _ h9 => h9) rfl dX12_firstPlan_4 ?_
      refine lv_iconst (v := 0) hx hb dX12_firstPlan_7 (by decide) ?_
      refine va_iald hx hb hK hP 1 0 rfl rfl (tz_in (by decide +kernel)) dX12_firstPlan_8 ?_
      refine lv_topi (fun v_40554 v_40554_e => ?_)
      have h_v_40554 : 0 ≤ (v_40554 : Int32).toInt ∧ (v_40554 : Int32).toInt ≤ 12 := by rw [v_40554_e]; exact gr_nodes hG.r (⟨by decide, by decide⟩ : 0 ≤ (0 : Int32).toInt ∧ (0 : Int32).toInt ≤ 0)
      have g_v_40554 : v_40554 = sf (0) := v_40554_e.trans (congrArg sf rfl)
      have gi_v_40554 := congrArg Int32.toInt g_v_40554
      refine lv_icmp_ge (tgt := 58) hx hb dX12_firstPlan_9 (by decide) (fun c_40555 => ?_) (fun c_40555 => ?_)
      · skip
        have c_40555_i := Int32.le_iff_toInt_le.mp c_40555
        have hP9 := hP.sub (ws' := [(mm, .inr (12, (.int i_thrown :: .ref m_s :: .ref m_spare :: .ref m_kept :: .ref m_undone :: .ref m_triedWay :: .ref m_isKept :: .int i_undoMany :: .ref m_tape :: .int i_length :: .int i_size :: .int i_p :: .int i_at :: .int i_token :: .int i_number :: .int i_letterMany :: .int i_fault :: .int i_faultAt :: .ref m_letters :: .int i_isKnown :: .ref m_choice :: .ref m_row :: .ref m_up :: .ref m_low :: .ref m_m :: .ref m_bestUp :: .ref m_bestLow :: .ref m_replyUp :: .ref m_replyLow :: .ref m_worthUp :: .ref m_worthLow :: .ref m_bestWay :: .int i_seed :: .ref m_told :: .int i_toldMany :: []))), (m_s, .inl (g 0, 193, .inl sf)), (m_choice, .inl (g 0, 12, .inl f_40552))]) [0, 1, 2] rfl
        have hD9 := hD.sub (ws' := [(mm, .inr (12, (.int i_thrown :: .ref m_s :: .ref m_spare :: .ref m_kept :: .ref m_undone :: .ref m_triedWay :: .ref m_isKept :: .int i_undoMany :: .ref m_tape :: .int i_length :: .int i_size :: .int i_p :: .int i_at :: .int i_token :: .int i_number :: .int i_letterMany :: .int i_fault :: .int i_faultAt :: .ref m_letters :: .int i_isKnown :: .ref m_choice :: .ref m_row :: .ref m_up :: .ref m_low :: .ref m_m :: .ref m_bestUp :: .ref m_bestLow :: .ref m_replyUp :: .ref m_replyLow :: .ref m_worthUp :: .ref m_worthLow :: .ref m_bestWay :: .int i_seed :: .ref m_told :: .int i_toldMany :: []))), (m_s, .inl (g 0, 193, .inl sf)), (m_choice, .inl (g 0, 12, .inl f_40552))]) [0, 1, 2] (by decide) rfl
        exact W.vret hx hb hr (fun t ht hW => ⟨⟨(), rfl, trivial, f_40552, (tr_wa h_f_40552 (by decide) (by decide)), (FPi_done hG (by decide) hr40553_0 (by (first | (clear h_i_undoMany h_i_length h_i_size h_i_p h_i_at h_i_token h_i_number h_i_letterMany h_i_faultAt h_i_isKnown h_i_toldMany h_x_40551 h_v_40554 g_v_40554 gi_v_40554 c_40555_i; omega) | omega))).1, (FPi_done hG (by decide) hr40553_0 (by (first | (clear h_i_undoMany h_i_length h_i_size h_i_p h_i_at h_i_token h_i_number h_i_letterMany h_i_faultAt h_i_isKnown h_i_toldMany h_x_40551 h_v_40554 g_v_40554 gi_v_40554 c_40555_i; omega) | omega))).2.1, (FPi_done hG (by decide) hr40553_0 (by (first | (clear h_i_undoMany h_i_length h_i_size h_i_p h_i_at h_i_token h_i_number h_i_letterMany h_i_faultAt h_i_isKnown h_i_toldMany h_x_40551 h_v_40554 g_v_40554 gi_v_40554 c_40555_i; omega) | omega))).2.2, by rw [ht]; exact hP9, hD9⟩, hS.F ht⟩) hS.2.2 dX12_firstPlan_58
      · skip
        have c_40555_i := Int32.lt_iff_toInt_lt.mp (Int32.not_le.mp c_40555)
        have h_40556 : 0 ≤ (x_40551 : Int32).toInt ∧ (x_40551 : Int32).toInt ≤ 11 := nr_lt_l h_x_40551 h_v_40554 c_40555_i (by decide) (by decide)
        have h_40557 : 1 ≤ (v_40554 : Int32).toInt ∧ (v_40554 : Int32).toInt ≤ 12 := nr_lt_r h_x_40551 h_v_40554 c_40555_i (by decide) (by decide)
        refine lv_aload_n hx hb dX12_firstPlan_12 rfl (lv_at hl 1 rfl) ?_
        refine lv_iload_n hx hb dX12_firstPlan_13 rfl (lv_at hl 0 rfl) ?_
        refine lv_iload_n hx hb dX12_firstPlan_14 rfl (lv_at hl 2 rfl) ?_
        have hPc := hP.sub (ws' := [(mm, .inr (12, (.int i_thrown :: .ref m_s :: .ref m_spare :: .ref m_kept :: .ref m_undone :: .ref m_triedWay :: .ref m_isKept :: .int i_undoMany :: .ref m_tape :: .int i_length :: .int i_size :: .int i_p :: .int i_at :: .int i_token :: .int i_number :: .int i_letterMany :: .int i_fault :: .int i_faultAt :: .ref m_letters :: .int i_isKnown :: .ref m_choice :: .ref m_row :: .ref m_up :: .ref m_low :: .ref m_m :: .ref m_bestUp :: .ref m_bestLow :: .ref m_replyUp :: .ref m_replyLow :: .ref m_worthUp :: .ref m_worthLow :: .ref m_bestWay :: .int i_seed :: .ref m_told :: .int i_toldMany :: []))), (m_s, .inl (g 0, 193, .inl sf))]) [0, 1] rfl
        refine vp_callSi (va_Run.run (va_runV (As := [.int x_40551, .int 2]) (rest := []) ⟨hx, hb, hml, hown, hts⟩ (c_X12_isKind l D g mm x_40551 2 i_thrown m_s m_spare m_kept m_undone m_triedWay m_isKept i_undoMany m_tape i_length i_size i_p i_at i_token i_number i_letterMany i_fault i_faultAt m_letters i_isKnown m_choice m_row m_up m_low m_m m_bestUp m_bestLow m_replyUp m_replyLow m_worthUp m_worthLow m_bestWay i_seed m_told i_toldMany sf (tr_w h_40556 (by decide) (by decide)) (tr_w h_i_undoMany (by decide) (by decide)) (tr_w h_i_length (by decide) (by decide)) (tr_w h_i_size (by decide) (by decide)) (tr_w h_i_p (by decide) (by decide)) (tr_w h_i_at (by decide) (by decide)) (tr_w h_i_token (by decide) (by decide)) (tr_w h_i_number (by decide) (by decide)) (tr_w h_i_letterMany (by decide) (by decide)) (tr_w h_i_faultAt (by decide) (by decide)) (tr_w h_i_isKnown (by decide) (by decide)) (tr_w h_i_toldMany (by decide) (by decide)) hG) (cwV 2 hts (tz_gV qw_94 qw_95 qw_96 qw_3 qw_97) rfl rfl rfl (by decide +kernel) ⟨Nat.le_of_ble_eq_true rfl, Nat.le_of_ble_eq_true rfl⟩) ⟨tz_blS, va_recv hK hPc (ci := 12) (q0 := 0) rfl rfl, tz_preS hPc hK⟩ rfl rfl hl.1 rfl (lv_room (Nat.le_of_ble_eq_true rfl)) dX12_firstPlan_15 ⟨Nat.le_of_ble_eq_true rfl, Nat.le_of_ble_eq_true rfl⟩)) (fun r_40558 hw => ?_)
        have kk_2 := tk_2
        have hw_40559 : 0 ≤ (r_40558 : Int32).toInt ∧ (r_40558 : Int32).toInt ≤ 1 := hw.1
        have hw_40559_p0 : Hide (¬ (r_40558 : Int32).toInt = 0 → (sf (1 + (x_40551 : Int32).toInt.toNat)).toInt = (2 : Int32).toInt) := hw.2.1
        have hw_40559_p1 : Hide ((r_40558 : Int32).toInt = 0 → ¬ (sf (1 + (x_40551 : Int32).toInt.toNat)).toInt = (2 : Int32).toInt) := hw.2.2
        refine lv_if_eq (tgt := 52) hx hb dX12_firstPlan_18 (by decide) (fun c_40560 => ?_) (fun c_40560 => ?_)
        · skip
          have kk_0 := tk_0
          have c_40560_i : (r_40558 : Int32).toInt = (0 : Int32).toInt := congrArg Int32.toInt c_40560
          have hw_40559_p1_u := (hw_40559_p1).get (c_40560_i.trans tk_0)
          have h_40561 : 0 ≤ (r_40558 : Int32).toInt ∧ (r_40558 : Int32).toInt ≤ 0 := nr_eq_l hw_40559 (⟨by decide, by decide⟩ : 0 ≤ (0 : Int32).toInt ∧ (0 : Int32).toInt ≤ 0) c_40560_i (by decide) (by decide)
          obtain ⟨v_40563, v_40563_e⟩ : ∃ y : Int32, y = x_40551 + Int32.ofInt 1 := ⟨_, rfl⟩
          have h_v_40563 : 1 ≤ (v_40563 : Int32).toInt ∧ (v_40563 : Int32).toInt ≤ 12 := by rw [v_40563_e]; exact tr_add h_40556 (⟨by decide, by decide⟩ : 1 ≤ (Int32.ofInt 1 : Int32).toInt ∧ (Int32.ofInt 1 : Int32).toInt ≤ 1) (by decide) (by decide) (by decide) (by decide)
          have q_v_40563 : v_40563.toInt = x_40551.toInt + 1 := by rw [v_40563_e]; exact tr_addE h_40556 (⟨by decide, by decide⟩ : 1 ≤ (Int32.ofInt 1 : Int32).toInt ∧ (Int32.ofInt 1 : Int32).toInt ≤ 1) (by decide) (by decide)
          refine lv_iinc (v := v_40563) (lv' := [(2, .int v_40563), (0, .ref mm), (1, .int 2)]) hx hb dX12_firstPlan_52 hl (k := 0) rfl v_40563_e.symm (by decide) rfl (fun ls hl => ?_)
          refine lv_goto (tgt := 2) hx hb dX12_firstPlan_55 (by decide) ?_
          exact ih_40553 v_40563 f_40552 H _ ls (tr_w h_v_40563 (by decide) (by decide)) (tr_wa h_f_40552 (by decide) (by decide)) (FPi_skip hr40553_0 (by have z_d := tk_2; have z_0 := tk_0; (first | (clear h_i_undoMany h_i_length h_i_size h_i_p h_i_at h_i_token h_i_number h_i_letterMany h_i_faultAt h_i_isKnown h_i_toldMany hw_40559 c_40560_i h_40561; omega) | omega)) (by (first | (clear h_i_undoMany h_i_length h_i_size h_i_p h_i_at h_i_token h_i_number h_i_letterMany h_i_faultAt h_i_isKnown h_i_toldMany hw_40559 c_40560_i h_40561; omega) | omega))) (by have z_0 := tk_0; (first | (clear h_i_undoMany h_i_length h_i_size h_i_p h_i_at h_i_token h_i_number h_i_letterMany h_i_faultAt h_i_isKnown h_i_toldMany hw_40559 c_40560_i h_40561; omega) | omega)) (by (first | (clear h_i_undoMany h_i_length h_i_size h_i_p h_i_at h_i_token h_i_number h_i_letterMany h_i_faultAt h_i_isKnown h_i_toldMany hw_40559 c_40560_i h_40561; omega) | omega)) (hP.sub [0, 1, 2] rfl) (hD.sub [0, 1, 2] (by decide) rfl) hS (lv_sub hl [0, 1, 2] rfl)
        · skip
          have kk_0 := tk_0
          have c_40560_i : ¬ (r_40558 : Int32).toInt = (0 : Int32).toInt := (fun q => c_40560 (Int32.toInt_inj.mp q))
          have hw_40559_p0_u := (hw_40559_p0).get (fun q => c_40560_i (q.trans tk_0.symm))
          have h_40562 : 1 ≤ (r_40558 : Int32).toInt ∧ (r_40558 : Int32).toInt ≤ 1 := nr_ne_l hw_40559 (⟨by decide, by decide⟩ : 0 ≤ (0 : Int32).toInt ∧ (0 : Int32).toInt ≤ 0) c_40560_i (by decide) (by decide)
          refine lv_aload_n hx hb dX12_firstPlan_21 rfl (lv_at hl 1 rfl) ?_
          refine va_get (D := D) (ci := 12) (v := .ref m_choice) (C := RX12) (T := TX12) (N := 35) hx hb hts inlX12 hown hK hP 0 rfl rfl 20 (by decide) (hts (Cond.fieldLink RX12 40 "ChanceRingsModel" "choice" "[I") qw_125) (fun _ h9 => h9) rfl dX12_firstPlan_22 ?_
          refine lv_iload_n hx hb dX12_firstPlan_25 rfl (lv_at hl 0 rfl) ?_
          refine lv_aload_n hx hb dX12_firstPlan_26 rfl (lv_at hl 1 rfl) ?_
          refine va_get (D := D) (ci := 12) (v := .ref m_s) (C := RX12) (T := TX12) (N := 35) hx hb hts inlX12 hown hK hP 0 rfl rfl 1 (by decide) (hts (Cond.fieldLink RX12 13 "ChanceRingsModel" "s" "[I") qw_73) (fun _ h9 => h9) rfl dX12_firstPlan_27 ?_
          refine lv_bipush (v := 109) hx hb dX12_firstPlan_30 (by decide) ?_
          refine lv_iload_n hx hb dX12_firstPlan_32 rfl (lv_at hl 0 rfl) ?_
          refine lv_iadd hx hb dX12_firstPlan_33 ?_
          refine lv_topi (fun v_40564 v_40564_e => ?_)
          have h_v_40564 : 109 ≤ (v_40564 : Int32).toInt ∧ (v_40564 : Int32).toInt ≤ 120 := by rw [v_40564_e]; exact tr_add (⟨by decide, by decide⟩ : 109 ≤ (109 : Int32).toInt ∧ (109 : Int32).toInt ≤ 109) h_40556 (by decide) (by decide) (by decide) (by decide)
          have q_v_40564 : v_40564.toInt = 109 + x_40551.toInt := by rw [v_40564_e]; exact (tr_addX (⟨by decide, by decide⟩ : 109 ≤ (109 : Int32).toInt ∧ (109 : Int32).toInt ≤ 109) h_40556 (by decide) (by decide)).trans (by rw [tk_109])
          refine va_iald hx hb hK hP 1 0 rfl rfl (tr_in h_v_40564 (by decide) (by decide)) dX12_firstPlan_34 ?_
          refine lv_topi (fun v_40565 v_40565_e => ?_)
          have h_v_40565 : (-1) ≤ (v_40565 : Int32).toInt ∧ (v_40565 : Int32).toInt ≤ 2 := by rw [v_40565_e]; exact gr_held hG.r (tr_w h_v_40564 (by decide) (by decide))
          have g_v_40565 : v_40565 = sf (109 + x_40551.toInt.toNat) := v_40565_e.trans (congrArg sf (by show Int.toNat _ = _; (first | (clear h_i_undoMany h_i_length h_i_size h_i_p h_i_at h_i_token h_i_number h_i_letterMany h_i_faultAt h_i_isKnown h_i_toldMany h_f_40552 hw_40559 c_40560_i h_40562; omega) | omega)))
          have gi_v_40565 := congrArg Int32.toInt g_v_40565
          refine lv_if_ge (tgt := 42) hx hb dX12_firstPlan_35 (by decide) (fun c_40566 => ?_) (fun c_40566 => ?_)
          · skip
            have c_40566_i := Int32.le_iff_toInt_le.mp c_40566
            have h_40567 : 0 ≤ (v_40565 : Int32).toInt ∧ (v_40565 : Int32).toInt ≤ 2 := nr_le_r (⟨by decide, by decide⟩ : 0 ≤ (0 : Int32).toInt ∧ (0 : Int32).toInt ≤ 0) h_v_40565 c_40566_i (by decide) (by decide)
            refine lv_aload_n hx hb dX12_firstPlan_42 rfl (lv_at hl 1 rfl) ?_
            refine va_get (D := D) (ci := 12) (v := .ref m_s) (C := RX12) (T := TX12) (N := 35) hx hb hts inlX12 hown hK hP 0 rfl rfl 1 (by decide) (hts (Cond.fieldLink RX12 13 "ChanceRingsModel" "s" "[I") qw_73) (fun _ h9 => h9) rfl dX12_firstPlan_43 ?_
            refine lv_bipush (v := 109) hx hb dX12_firstPlan_46 (by decide) ?_
            refine lv_iload_n hx hb dX12_firstPlan_48 rfl (lv_at hl 0 rfl) ?_
            refine lv_iadd hx hb dX12_firstPlan_49 ?_
            refine lv_topi (fun v_40569 v_40569_e => ?_)
            have h_v_40569 : 109 ≤ (v_40569 : Int32).toInt ∧ (v_40569 : Int32).toInt ≤ 120 := by rw [v_40569_e]; exact tr_add (⟨by decide, by decide⟩ : 109 ≤ (109 : Int32).toInt ∧ (109 : Int32).toInt ≤ 109) h_40556 (by decide) (by decide) (by decide) (by decide)
            have q_v_40569 : v_40569.toInt = 109 + x_40551.toInt := by rw [v_40569_e]; exact (tr_addX (⟨by decide, by decide⟩ : 109 ≤ (109 : Int32).toInt ∧ (109 : Int32).toInt ≤ 109) h_40556 (by decide) (by decide)).trans (by rw [tk_109])
            refine va_iald hx hb hK hP 1 0 rfl rfl (tr_in h_v_40569 (by decide) (by decide)) dX12_firstPlan_50 ?_
            refine tz_i (y := v_40565) ((congrArg sf (by show Int.toNat _ = _; (first | (clear h_i_undoMany h_i_length h_i_size h_i_p h_i_at h_i_token h_i_number h_i_letterMany h_i_faultAt h_i_isKnown h_i_toldMany h_f_40552 hw_40559 c_40560_i h_40562; omega) | omega))).trans g_v_40565.symm) ?_
            refine va_iast hx hb hK hP hD hS 2 0 rfl rfl (tr_in h_40556 (by decide) (by decide)) dX12_firstPlan_51 (fun H locs hP hD hS => ?_)
            obtain ⟨f_40570, f_40570_e, h_f_40570, hP, hD⟩ : ∃ FX : Nat → Int32, FX = (upd f_40552 (x_40551 : Int32).toNatClampNeg v_40565) ∧ (∀ j : Nat, 0 ≤ (FX j).toInt ∧ (FX j).toInt ≤ 2) ∧ va_P D vwCl [(mm, .inr (12, (.int i_thrown :: .ref m_s :: .ref m_spare :: .ref m_kept :: .ref m_undone :: .ref m_triedWay :: .ref m_isKept :: .int i_undoMany :: .ref m_tape :: .int i_length :: .int i_size :: .int i_p :: .int i_at :: .int i_token :: .int i_number :: .int i_letterMany :: .int i_fault :: .int i_faultAt :: .ref m_letters :: .int i_isKnown :: .ref m_choice :: .ref m_row :: .ref m_up :: .ref m_low :: .ref m_m :: .ref m_bestUp :: .ref m_bestLow :: .ref m_replyUp :: .ref m_replyLow :: .ref m_worthUp :: .ref m_worthLow :: .ref m_bestWay :: .int i_seed :: .ref m_told :: .int i_toldMany :: []))), (m_s, .inl (g 0, 193, .inl sf)), (m_choice, .inl (g 0, 12, .inl FX))] H ∧ va_D A [(mm, .inr (12, (.int i_thrown :: .ref m_s :: .ref m_spare :: .ref m_kept :: .ref m_undone :: .ref m_triedWay :: .ref m_isKept :: .int i_undoMany :: .ref m_tape :: .int i_length :: .int i_size :: .int i_p :: .int i_at :: .int i_token :: .int i_number :: .int i_letterMany :: .int i_fault :: .int i_faultAt :: .ref m_letters :: .int i_isKnown :: .ref m_choice :: .ref m_row :: .ref m_up :: .ref m_low :: .ref m_m :: .ref m_bestUp :: .ref m_bestLow :: .ref m_replyUp :: .ref m_replyLow :: .ref m_worthUp :: .ref m_worthLow :: .ref m_bestWay :: .int i_seed :: .ref m_told :: .int i_toldMany :: []))), (m_s, .inl (g 0, 193, .inl sf)), (m_choice, .inl (g 0, 12, .inl FX))] := ⟨_, rfl, tr_upd h_f_40552 (tr_w h_40567 (by decide) (by decide)), hP, hD⟩
            have hP : va_P D vwCl [(mm, .inr (12, (.int i_thrown :: .ref m_s :: .ref m_spare :: .ref m_kept :: .ref m_undone :: .ref m_triedWay :: .ref m_isKept :: .int i_undoMany :: .ref m_tape :: .int i_length :: .int i_size :: .int i_p :: .int i_at :: .int i_token :: .int i_number :: .int i_letterMany :: .int i_fault :: .int i_faultAt :: .ref m_letters :: .int i_isKnown :: .ref m_choice :: .ref m_row :: .ref m_up :: .ref m_low :: .ref m_m :: .ref m_bestUp :: .ref m_bestLow :: .ref m_replyUp :: .ref m_replyLow :: .ref m_worthUp :: .ref m_worthLow :: .ref m_bestWay :: .int i_seed :: .ref m_told :: .int i_toldMany :: []))), (m_s, .inl (g 0, 193, .inl sf)), (m_choice, .inl (g 0, 12, .inl f_40570))] H := hP
            have hD : va_D A [(mm, .inr (12, (.int i_thrown :: .ref m_s :: .ref m_spare :: .ref m_kept :: .ref m_undone :: .ref m_triedWay :: .ref m_isKept :: .int i_undoMany :: .ref m_tape :: .int i_length :: .int i_size :: .int i_p :: .int i_at :: .int i_token :: .int i_number :: .int i_letterMany :: .int i_fault :: .int i_faultAt :: .ref m_letters :: .int i_isKnown :: .ref m_choice :: .ref m_row :: .ref m_up :: .ref m_low :: .ref m_m :: .ref m_bestUp :: .ref m_bestLow :: .ref m_replyUp :: .ref m_replyLow :: .ref m_worthUp :: .ref m_worthLow :: .ref m_bestWay :: .int i_seed :: .ref m_told :: .int i_toldMany :: []))), (m_s, .inl (g 0, 193, .inl sf)), (m_choice, .inl (g 0, 12, .inl f_40570))] := hD
            obtain ⟨v_40571, v_40571_e⟩ : ∃ y : Int32, y = x_40551 + Int32.ofInt 1 := ⟨_, rfl⟩
            have h_v_40571 : 1 ≤ (v_40571 : Int32).toInt ∧ (v_40571 : Int32).toInt ≤ 12 := by rw [v_40571_e]; exact tr_add h_40556 (⟨by decide, by decide⟩ : 1 ≤ (Int32.ofInt 1 : Int32).toInt ∧ (Int32.ofInt 1 : Int32).toInt ≤ 1) (by decide) (by decide) (by decide) (by decide)
            have q_v_40571 : v_40571.toInt = x_40551.toInt + 1 := by rw [v_40571_e]; exact tr_addE h_40556 (⟨by decide, by decide⟩ : 1 ≤ (Int32.ofInt 1 : Int32).toInt ∧ (Int32.ofInt 1 : Int32).toInt ≤ 1) (by decide) (by decide)
            refine lv_iinc (v := v_40571) (lv' := [(2, .int v_40571), (0, .ref mm), (1, .int 2)]) hx hb dX12_firstPlan_52 hl (k := 0) rfl v_40571_e.symm (by decide) rfl (fun ls hl => ?_)
            refine lv_goto (tgt := 2) hx hb dX12_firstPlan_55 (by decide) ?_
            exact ih_40553 v_40571 f_40570 H _ ls (tr_w h_v_40571 (by decide) (by decide)) (tr_wa h_f_40570 (by decide) (by decide)) (FPi_put hr40553_0 (by have z_d := tk_2; have z_0 := tk_0; (first | (clear h_i_undoMany h_i_length h_i_size h_i_p h_i_at h_i_token h_i_number h_i_letterMany h_i_faultAt h_i_isKnown h_i_toldMany h_f_40552 hw_40559 c_40560_i h_40562; omega) | omega)) f_40570_e (by rw [if_neg (by have z_d := tk_2; have z_0 := tk_0; (first | (clear h_i_undoMany h_i_length h_i_size h_i_p h_i_at h_i_token h_i_number h_i_letterMany h_i_faultAt h_i_isKnown h_i_toldMany h_f_40552 hw_40559 c_40560_i h_40562; omega) | omega))]; (first | (clear h_i_undoMany h_i_length h_i_size h_i_p h_i_at h_i_token h_i_number h_i_letterMany h_i_faultAt h_i_isKnown h_i_toldMany h_f_40552 hw_40559 c_40560_i h_40562; omega) | omega)) (by (first | (clear h_i_undoMany h_i_length h_i_size h_i_p h_i_at h_i_token h_i_number h_i_letterMany h_i_faultAt h_i_isKnown h_i_toldMany h_f_40552 hw_40559 c_40560_i h_40562; omega) | omega))) (by have z_0 := tk_0; (first | (clear h_i_undoMany h_i_length h_i_size h_i_p h_i_at h_i_token h_i_number h_i_letterMany h_i_faultAt h_i_isKnown h_i_toldMany h_f_40552 hw_40559 c_40560_i h_40562; omega) | omega)) (by (first | (clear h_i_undoMany h_i_length h_i_size h_i_p h_i_at h_i_token h_i_number h_i_letterMany h_i_faultAt h_i_isKnown h_i_toldMany h_f_40552 hw_40559 c_40560_i h_40562; omega) | omega)) (hP.sub [0, 1, 2] rfl) (hD.sub [0, 1, 2] (by decide) rfl) hS (lv_sub hl [0, 1, 2] rfl)
          · skip
            have c_40566_i := Int32.lt_iff_toInt_lt.mp (Int32.not_le.mp c_40566)
            have h_40568 : (-1) ≤ (v_40565 : Int32).toInt ∧ (v_40565 : Int32).toInt ≤ (-1) := nr_lt_l h_v_40565 (⟨by decide, by decide⟩ : 0 ≤ (0 : Int32).toInt ∧ (0 : Int32).toInt ≤ 0) c_40566_i (by decide) (by decide)
            refine lv_iconst (v := 0) hx hb dX12_firstPlan_38 (by decide) ?_
            refine lv_goto (tgt := 51) hx hb dX12_firstPlan_39 (by decide) ?_
            refine va_iast hx hb hK hP hD hS 2 0 rfl rfl (tr_in h_40556 (by decide) (by decide)) dX12_firstPlan_51 (fun H locs hP hD hS => ?_)
            obtain ⟨f_40572, f_40572_e, h_f_40572, hP, hD⟩ : ∃ FX : Nat → Int32, FX = (upd f_40552 (x_40551 : Int32).toNatClampNeg 0) ∧ (∀ j : Nat, 0 ≤ (FX j).toInt ∧ (FX j).toInt ≤ 2) ∧ va_P D vwCl [(mm, .inr (12, (.int i_thrown :: .ref m_s :: .ref m_spare :: .ref m_kept :: .ref m_undone :: .ref m_triedWay :: .ref m_isKept :: .int i_undoMany :: .ref m_tape :: .int i_length :: .int i_size :: .int i_p :: .int i_at :: .int i_token :: .int i_number :: .int i_letterMany :: .int i_fault :: .int i_faultAt :: .ref m_letters :: .int i_isKnown :: .ref m_choice :: .ref m_row :: .ref m_up :: .ref m_low :: .ref m_m :: .ref m_bestUp :: .ref m_bestLow :: .ref m_replyUp :: .ref m_replyLow :: .ref m_worthUp :: .ref m_worthLow :: .ref m_bestWay :: .int i_seed :: .ref m_told :: .int i_toldMany :: []))), (m_s, .inl (g 0, 193, .inl sf)), (m_choice, .inl (g 0, 12, .inl FX))] H ∧ va_D A [(mm, .inr (12, (.int i_thrown :: .ref m_s :: .ref m_spare :: .ref m_kept :: .ref m_undone :: .ref m_triedWay :: .ref m_isKept :: .int i_undoMany :: .ref m_tape :: .int i_length :: .int i_size :: .int i_p :: .int i_at :: .int i_token :: .int i_number :: .int i_letterMany :: .int i_fault :: .int i_faultAt :: .ref m_letters :: .int i_isKnown :: .ref m_choice :: .ref m_row :: .ref m_up :: .ref m_low :: .ref m_m :: .ref m_bestUp :: .ref m_bestLow :: .ref m_replyUp :: .ref m_replyLow :: .ref m_worthUp :: .ref m_worthLow :: .ref m_bestWay :: .int i_seed :: .ref m_told :: .int i_toldMany :: []))), (m_s, .inl (g 0, 193, .inl sf)), (m_choice, .inl (g 0, 12, .inl FX))] := ⟨_, rfl, tr_upd h_f_40552 (⟨by decide, by decide⟩ : 0 ≤ (0 : Int32).toInt ∧ (0 : Int32).toInt ≤ 2), hP, hD⟩
            have hP : va_P D vwCl [(mm, .inr (12, (.int i_thrown :: .ref m_s :: .ref m_spare :: .ref m_kept :: .ref m_undone :: .ref m_triedWay :: .ref m_isKept :: .int i_undoMany :: .ref m_tape :: .int i_length :: .int i_size :: .int i_p :: .int i_at :: .int i_token :: .int i_number :: .int i_letterMany :: .int i_fault :: .int i_faultAt :: .ref m_letters :: .int i_isKnown :: .ref m_choice :: .ref m_row :: .ref m_up :: .ref m_low :: .ref m_m :: .ref m_bestUp :: .ref m_bestLow :: .ref m_replyUp :: .ref m_replyLow :: .ref m_worthUp :: .ref m_worthLow :: .ref m_bestWay :: .int i_seed :: .ref m_told :: .int i_toldMany :: []))), (m_s, .inl (g 0, 193, .inl sf)), (m_choice, .inl (g 0, 12, .inl f_40572))] H := hP
            have hD : va_D A [(mm, .inr (12, (.int i_thrown :: .ref m_s :: .ref m_spare :: .ref m_kept :: .ref m_undone :: .ref m_triedWay :: .ref m_isKept :: .int i_undoMany :: .ref m_tape :: .int i_length :: .int i_size :: .int i_p :: .int i_at :: .int i_token :: .int i_number :: .int i_letterMany :: .int i_fault :: .int i_faultAt :: .ref m_letters :: .int i_isKnown :: .ref m_choice :: .ref m_row :: .ref m_up :: .ref m_low :: .ref m_m :: .ref m_bestUp :: .ref m_bestLow :: .ref m_replyUp :: .ref m_replyLow :: .ref m_worthUp :: .ref m_worthLow :: .ref m_bestWay :: .int i_seed :: .ref m_told :: .int i_toldMany :: []))), (m_s, .inl (g 0, 193, .inl sf)), (m_choice, .inl (g 0, 12, .inl f_40572))] := hD
            obtain ⟨v_40573, v_40573_e⟩ : ∃ y : Int32, y = x_40551 + Int32.ofInt 1 := ⟨_, rfl⟩
            have h_v_40573 : 1 ≤ (v_40573 : Int32).toInt ∧ (v_40573 : Int32).toInt ≤ 12 := by rw [v_40573_e]; exact tr_add h_40556 (⟨by decide, by decide⟩ : 1 ≤ (Int32.ofInt 1 : Int32).toInt ∧ (Int32.ofInt 1 : Int32).toInt ≤ 1) (by decide) (by decide) (by decide) (by decide)
            have q_v_40573 : v_40573.toInt = x_40551.toInt + 1 := by rw [v_40573_e]; exact tr_addE h_40556 (⟨by decide, by decide⟩ : 1 ≤ (Int32.ofInt 1 : Int32).toInt ∧ (Int32.ofInt 1 : Int32).toInt ≤ 1) (by decide) (by decide)
            refine lv_iinc (v := v_40573) (lv' := [(2, .int v_40573), (0, .ref mm), (1, .int 2)]) hx hb dX12_firstPlan_52 hl (k := 0) rfl v_40573_e.symm (by decide) rfl (fun ls hl => ?_)
            refine lv_goto (tgt := 2) hx hb dX12_firstPlan_55 (by decide) ?_
            exact ih_40553 v_40573 f_40572 H _ ls (tr_w h_v_40573 (by decide) (by decide)) (tr_wa h_f_40572 (by decide) (by decide)) (FPi_put hr40553_0 (by have z_d := tk_2; have z_0 := tk_0; (first | (clear h_i_undoMany h_i_length h_i_size h_i_p h_i_at h_i_token h_i_number h_i_letterMany h_i_faultAt h_i_isKnown h_i_toldMany h_f_40552 hw_40559 c_40560_i h_40562; omega) | omega)) f_40572_e (by rw [if_pos (by have z_d := tk_2; have z_0 := tk_0; (first | (clear h_i_undoMany h_i_length h_i_size h_i_p h_i_at h_i_token h_i_number h_i_letterMany h_i_faultAt h_i_isKnown h_i_toldMany h_f_40552 hw_40559 c_40560_i h_40562; omega) | omega))]; decide) (by (first | (clear h_i_undoMany h_i_length h_i_size h_i_p h_i_at h_i_token h_i_number h_i_letterMany h_i_faultAt h_i_isKnown h_i_toldMany h_f_40552 hw_40559 c_40560_i h_40562; omega) | omega))) (by have z_0 := tk_0; (first | (clear h_i_undoMany h_i_length h_i_size h_i_p h_i_at h_i_token h_i_number h_i_letterMany h_i_faultAt h_i_isKnown h_i_toldMany h_f_40552 hw_40559 c_40560_i h_40562; omega) | omega)) (by (first | (clear h_i_undoMany h_i_length h_i_size h_i_p h_i_at h_i_token h_i_number h_i_letterMany h_i_faultAt h_i_isKnown h_i_toldMany h_f_40552 hw_40559 c_40560_i h_40562; omega) | omega)) (hP.sub [0, 1, 2] rfl) (hD.sub [0, 1, 2] (by decide) rfl) hS (lv_sub hl [0, 1, 2] rfl)
  exact lp_40553 13 0 chf s.heap _ ls (⟨by decide, by decide⟩ : 0 ≤ (0 : Int32).toInt ∧ (0 : Int32).toInt ≤ 12) (tr_wa h_chf (by decide) (by decide)) FPi_zero (by have z_0 := tk_0; (first | (clear h_i_undoMany h_i_length h_i_size h_i_p h_i_at h_i_token h_i_number h_i_letterMany h_i_faultAt h_i_isKnown h_i_toldMany; omega) | omega)) (by decide) (hP.sub [0, 1, 2] rfl) (hD.sub [0, 1, 2] (by decide) rfl) hS (lv_sub hl [0, 1, 2] rfl)
set_option maxHeartbeats 4000000 in
set_option maxRecDepth 100000 in
theorem c_X12_nextPlan2 (l : Launch) (D : va_G) (g : Nat → ClassId) (sz : Nat) (mm : Nat) (i_thrown : Int32) (m_s : Nat) (m_spare : Nat) (m_kept : Nat) (m_undone : Nat) (m_triedWay : Nat) (m_isKept : Nat) (i_undoMany : Int32) (m_tape : Nat) (i_length : Int32) (i_size : Int32) (i_p : Int32) (i_at : Int32) (i_token : Int32) (i_number : Int32) (i_letterMany : Int32) (i_fault : Int32) (i_faultAt : Int32) (m_letters : Nat) (i_isKnown : Int32) (m_choice : Nat) (m_row : Nat) (m_up : Nat) (m_low : Nat) (m_m : Nat) (m_bestUp : Nat) (m_bestLow : Nat) (m_replyUp : Nat) (m_replyLow : Nat) (m_worthUp : Nat) (m_worthLow : Nat) (m_bestWay : Nat) (i_seed : Int32) (m_told : Nat) (i_toldMany : Int32) (sf : Nat → Int32) (chf : Nat → Int32) (h_i_undoMany : 0 ≤ (i_undoMany : Int32).toInt ∧ (i_undoMany : Int32).toInt ≤ 8) (h_i_length : 0 ≤ (i_length : Int32).toInt ∧ (i_length : Int32).toInt ≤ 440) (h_i_size : 0 ≤ (i_size : Int32).toInt ∧ (i_size : Int32).toInt ≤ 440) (h_i_p : 0 ≤ (i_p : Int32).toInt ∧ (i_p : Int32).toInt ≤ 440) (h_i_at : 0 ≤ (i_at : Int32).toInt ∧ (i_at : Int32).toInt ≤ 440) (h_i_token : 0 ≤ (i_token : Int32).toInt ∧ (i_token : Int32).toInt ≤ 4) (h_i_number : 0 ≤ (i_number : Int32).toInt ∧ (i_number : Int32).toInt ≤ 814) (h_i_letterMany : (-440) ≤ (i_letterMany : Int32).toInt ∧ (i_letterMany : Int32).toInt ≤ 440) (h_i_faultAt : 0 ≤ (i_faultAt : Int32).toInt ∧ (i_faultAt : Int32).toInt ≤ 440) (h_i_isKnown : 0 ≤ (i_isKnown : Int32).toInt ∧ (i_isKnown : Int32).toInt ≤ 1) (h_i_toldMany : 0 ≤ (i_toldMany : Int32).toInt ∧ (i_toldMany : Int32).toInt ≤ 900) (h_chf : ∀ j : Nat, 0 ≤ (chf j).toInt ∧ (chf j).toInt ≤ 2) (hG : GS sf) (hL : LGd sf 2 chf) : Met l yX12_nextPlan (.code yX12_nextPlan cX12_nextPlan 3 (some .boolean) :: wsL_law) ({ frames := 1, cells := 0, slots := 0, locals := 22 }) (va_Pc [.ref mm, .int 2] (fun U => U.heap.size = sz ∧ va_P D vwCl [(mm, .inr (12, (.int i_thrown :: .ref m_s :: .ref m_spare :: .ref m_kept :: .ref m_undone :: .ref m_triedWay :: .ref m_isKept :: .int i_undoMany :: .ref m_tape :: .int i_length :: .int i_size :: .int i_p :: .int i_at :: .int i_token :: .int i_number :: .int i_letterMany :: .int i_fault :: .int i_faultAt :: .ref m_letters :: .int i_isKnown :: .ref m_choice :: .ref m_row :: .ref m_up :: .ref m_low :: .ref m_m :: .ref m_bestUp :: .ref m_bestLow :: .ref m_replyUp :: .ref m_replyLow :: .ref m_worthUp :: .ref m_worthLow :: .ref m_bestWay :: .int i_seed :: .ref m_told :: .int i_toldMany :: []))), (m_s, .inl (g 0, 193, .inl sf)), (m_choice, .inl (g 0, 12, .inl chf))] U.heap ∧ va_K D vwCl (TY g) U ∧ va_D (fun _ => True) [(mm, .inr (12, (.int i_thrown :: .ref m_s :: .ref m_spare :: .ref m_kept :: .ref m_undone :: .ref m_triedWay :: .ref m_isKept :: .int i_undoMany :: .ref m_tape :: .int i_length :: .int i_size :: .int i_p :: .int i_at :: .int i_token :: .int i_number :: .int i_letterMany :: .int i_fault :: .int i_faultAt :: .ref m_letters :: .int i_isKnown :: .ref m_choice :: .ref m_row :: .ref m_up :: .ref m_low :: .ref m_m :: .ref m_bestUp :: .ref m_bestLow :: .ref m_replyUp :: .ref m_replyLow :: .ref m_worthUp :: .ref m_worthLow :: .ref m_bestWay :: .int i_seed :: .ref m_told :: .int i_toldMany :: []))), (m_s, .inl (g 0, 193, .inl sf)), (m_choice, .inl (g 0, 12, .inl chf))])) (va_Qi (fun (r u : Int32) => u = r ∧ (0 ≤ (r : Int32).toInt ∧ (r : Int32).toInt ≤ 1)) (fun r t => ∃ ochf : Nat → Int32, (∀ j : Nat, 0 ≤ (ochf j).toInt ∧ (ochf j).toInt ≤ 2) ∧ (NPr sf 2 chf ochf r) ∧ va_P D vwCl [(mm, .inr (12, (.int i_thrown :: .ref m_s :: .ref m_spare :: .ref m_kept :: .ref m_undone :: .ref m_triedWay :: .ref m_isKept :: .int i_undoMany :: .ref m_tape :: .int i_length :: .int i_size :: .int i_p :: .int i_at :: .int i_token :: .int i_number :: .int i_letterMany :: .int i_fault :: .int i_faultAt :: .ref m_letters :: .int i_isKnown :: .ref m_choice :: .ref m_row :: .ref m_up :: .ref m_low :: .ref m_m :: .ref m_bestUp :: .ref m_bestLow :: .ref m_replyUp :: .ref m_replyLow :: .ref m_worthUp :: .ref m_worthLow :: .ref m_bestWay :: .int i_seed :: .ref m_told :: .int i_toldMany :: []))), (m_s, .inl (g 0, 193, .inl sf)), (m_choice, .inl (g 0, 12, .inl ochf))] t.heap ∧ va_D (va_A [(mm, .inr (12, (.int i_thrown :: .ref m_s :: .ref m_spare :: .ref m_kept :: .ref m_undone :: .ref m_triedWay :: .ref m_isKept :: .int i_undoMany :: .ref m_tape :: .int i_length :: .int i_size :: .int i_p :: .int i_at :: .int i_token :: .int i_number :: .int i_letterMany :: .int i_fault :: .int i_faultAt :: .ref m_letters :: .int i_isKnown :: .ref m_choice :: .ref m_row :: .ref m_up :: .ref m_low :: .ref m_m :: .ref m_bestUp :: .ref m_bestLow :: .ref m_replyUp :: .ref m_replyLow :: .ref m_worthUp :: .ref m_worthLow :: .ref m_bestWay :: .int i_seed :: .ref m_told :: .int i_toldMany :: []))), (m_s, .inl (g 0, 193, .inl sf)), (m_choice, .inl (g 0, 12, .inl chf))] sz) [(mm, .inr (12, (.int i_thrown :: .ref m_s :: .ref m_spare :: .ref m_kept :: .ref m_undone :: .ref m_triedWay :: .ref m_isKept :: .int i_undoMany :: .ref m_tape :: .int i_length :: .int i_size :: .int i_p :: .int i_at :: .int i_token :: .int i_number :: .int i_letterMany :: .int i_fault :: .int i_faultAt :: .ref m_letters :: .int i_isKnown :: .ref m_choice :: .ref m_row :: .ref m_up :: .ref m_low :: .ref m_m :: .ref m_bestUp :: .ref m_bestLow :: .ref m_replyUp :: .ref m_replyLow :: .ref m_worthUp :: .ref m_worthLow :: .ref m_bestWay :: .int i_seed :: .ref m_told :: .int i_toldMany :: []))), (m_s, .inl (g 0, 193, .inl sf)), (m_choice, .inl (g 0, 12, .inl ochf))]) (va_A [(mm, .inr (12, (.int i_thrown :: .ref m_s :: .ref m_spare :: .ref m_kept :: .ref m_undone :: .ref m_triedWay :: .ref m_isKept :: .int i_undoMany :: .ref m_tape :: .int i_length :: .int i_size :: .int i_p :: .int i_at :: .int i_token :: .int i_number :: .int i_letterMany :: .int i_fault :: .int i_faultAt :: .ref m_letters :: .int i_isKnown :: .ref m_choice :: .ref m_row :: .ref m_up :: .ref m_low :: .ref m_m :: .ref m_bestUp :: .ref m_bestLow :: .ref m_replyUp :: .ref m_replyLow :: .ref m_worthUp :: .ref m_worthLow :: .ref m_bestWay :: .int i_seed :: .ref m_told :: .int i_toldMany :: []))), (m_s, .inl (g 0, 193, .inl sf)), (m_choice, .inl (g 0, 12, .inl chf))] sz)) 0 0 (va_A [(mm, .inr (12, (.int i_thrown :: .ref m_s :: .ref m_spare :: .ref m_kept :: .ref m_undone :: .ref m_triedWay :: .ref m_isKept :: .int i_undoMany :: .ref m_tape :: .int i_length :: .int i_size :: .int i_p :: .int i_at :: .int i_token :: .int i_number :: .int i_letterMany :: .int i_fault :: .int i_faultAt :: .ref m_letters :: .int i_isKnown :: .ref m_choice :: .ref m_row :: .ref m_up :: .ref m_low :: .ref m_m :: .ref m_bestUp :: .ref m_bestLow :: .ref m_replyUp :: .ref m_replyLow :: .ref m_worthUp :: .ref m_worthLow :: .ref m_bestWay :: .int i_seed :: .ref m_told :: .int i_toldMany :: []))), (m_s, .inl (g 0, 193, .inl sf)), (m_choice, .inl (g 0, 12, .inl chf))] sz) := by
  refine Met.ofW (cc := cX12_nextPlan) (maxL := 3) (ret := (some .boolean)) (by decide) rfl ?_
  intro p e s m args below meth c s₁ B hml hv
  obtain ⟨ha, hsz, hP, hK, hD0⟩ := hv
  have hx := B.exec
  have hb := B.bytes
  have hr := B.returns
  have hts0 := atoms_spec (ws := (.code yX12_nextPlan cX12_nextPlan 3 (some .boolean) :: wsL_law)) B.pre
  have hts : ∀ w ∈ wsL_law, w.before args s = true := fun w h => hts0 w (List.mem_cons_of_mem _ h)
  have hown : s.vm.findClass RX12 = some m.cls := findClass_of_methodNamed B.named
  have hlocks := B.notSynchronized
  subst hsz
  have hD := hD0.self (sz := s.heap.size)
  generalize hAe : va_A [(mm, .inr (12, (.int i_thrown :: .ref m_s :: .ref m_spare :: .ref m_kept :: .ref m_undone :: .ref m_triedWay :: .ref m_isKept :: .int i_undoMany :: .ref m_tape :: .int i_length :: .int i_size :: .int i_p :: .int i_at :: .int i_token :: .int i_number :: .int i_letterMany :: .int i_fault :: .int i_faultAt :: .ref m_letters :: .int i_isKnown :: .ref m_choice :: .ref m_row :: .ref m_up :: .ref m_low :: .ref m_m :: .ref m_bestUp :: .ref m_bestLow :: .ref m_replyUp :: .ref m_replyLow :: .ref m_worthUp :: .ref m_worthLow :: .ref m_bestWay :: .int i_seed :: .ref m_told :: .int i_toldMany :: []))), (m_s, .inl (g 0, 193, .inl sf)), (m_choice, .inl (g 0, 12, .inl chf))] s.heap.size = A at hD ⊢
  have hA : ∀ q : Nat, s.heap.size ≤ q → A q := fun q h => by rw [← hAe]; exact Or.inr h
  have hS : va_S A s.heap s.heap [] := va_S.rf
  have hP : va_P D vwCl [(mm, .inr (12, (.int i_thrown :: .ref m_s :: .ref m_spare :: .ref m_kept :: .ref m_undone :: .ref m_triedWay :: .ref m_isKept :: .int i_undoMany :: .ref m_tape :: .int i_length :: .int i_size :: .int i_p :: .int i_at :: .int i_token :: .int i_number :: .int i_letterMany :: .int i_fault :: .int i_faultAt :: .ref m_letters :: .int i_isKnown :: .ref m_choice :: .ref m_row :: .ref m_up :: .ref m_low :: .ref m_m :: .ref m_bestUp :: .ref m_bestLow :: .ref m_replyUp :: .ref m_replyLow :: .ref m_worthUp :: .ref m_worthLow :: .ref m_bestWay :: .int i_seed :: .ref m_told :: .int i_toldMany :: []))), (m_s, .inl (g 0, 193, .inl sf)), (m_choice, .inl (g 0, 12, .inl chf))] s.heap := hP
  refine W.eq (g2 := entryFrame m ([.ref mm, .int 2] : List Value).toArray 3) (by rw [ha]) ?_
  have hl := lv_entry ([.ref mm, .int 2]) (n := 3) (Nat.le_of_ble_eq_true rfl)
  rw [lg_entry_eq]
  generalize (lg_sl ([.ref mm, .int 2]) ++ List.replicate (3 - (lg_sl ([.ref mm, .int 2])).length) Slot.unset).toArray = ls at hl ⊢
  have hl : lv_has ls 3 [(0, .ref mm), (1, .int 2)] := hl
  have gn9 := hG.r.1
  refine lv_aload_n hx hb dX12_nextPlan_0 rfl (lv_at hl 0 rfl) ?_
  refine va_get (D := D) (ci := 12) (v := .ref m_s) (C := RX12) (T := TX12) (N := 35) hx hb hts inlX12 hown hK hP 0 rfl rfl 1 (by decide) (hts (Cond.fieldLink RX12 13 "ChanceRingsModel" "s" "[I") qw_73) (fun _ h9 => h9) rfl dX12_nextPlan_1 ?_
  refine lv_iconst (v := 0) hx hb dX12_nextPlan_4 (by decide) ?_
  refine va_iald hx hb hK hP 1 0 rfl rfl (tz_in (by decide +kernel)) dX12_nextPlan_5 ?_
  refine lv_topi (fun v_40574 v_40574_e => ?_)
  have h_v_40574 : 0 ≤ (v_40574 : Int32).toInt ∧ (v_40574 : Int32).toInt ≤ 12 := by rw [v_40574_e]; exact gr_nodes hG.r (⟨by decide, by decide⟩ : 0 ≤ (0 : Int32).toInt ∧ (0 : Int32).toInt ≤ 0)
  have g_v_40574 : v_40574 = sf (0) := v_40574_e.trans (congrArg sf rfl)
  have gi_v_40574 := congrArg Int32.toInt g_v_40574
  refine lv_iconst (v := 1) hx hb dX12_nextPlan_6 (by decide) ?_
  refine lv_isub hx hb dX12_nextPlan_7 ?_
  refine lv_topi (fun v_40575 v_40575_e => ?_)
  have h_v_40575 : (-1) ≤ (v_40575 : Int32).toInt ∧ (v_40575 : Int32).toInt ≤ 11 := by rw [v_40575_e]; exact tr_sub h_v_40574 (⟨by decide, by decide⟩ : 1 ≤ (1 : Int32).toInt ∧ (1 : Int32).toInt ≤ 1) (by decide) (by decide) (by decide) (by decide)
  have q_v_40575 : v_40575.toInt = v_40574.toInt - 1 := by rw [v_40575_e]; exact tr_subE h_v_40574 (⟨by decide, by decide⟩ : 1 ≤ (1 : Int32).toInt ∧ (1 : Int32).toInt ≤ 1) (by decide) (by decide)
  refine lv_istore_n (lv' := [(2, .int v_40575), (0, .ref mm), (1, .int 2)]) hx hb dX12_nextPlan_8 rfl hl (by decide) rfl (fun ls hl => ?_)
  have lp_40637 : ∀ (n_40637 : Nat) (x_40635 : Int32) (f_40636 : Nat → Int32) (H : Heap) (locs : List Loc) (ls : Array Slot), ((-1) ≤ (x_40635 : Int32).toInt ∧ (x_40635 : Int32).toInt ≤ 11) → (∀ j : Nat, 0 ≤ (f_40636 j).toInt ∧ (f_40636 j).toInt ≤ 2) → (NPi sf 2 chf f_40636 (x_40635.toInt + 1).toNat) → (x_40635.toInt < (sf 0).toInt) → (x_40635.toInt - (-1) < (n_40637 : Int)) → va_P D vwCl [(mm, .inr (12, (.int i_thrown :: .ref m_s :: .ref m_spare :: .ref m_kept :: .ref m_undone :: .ref m_triedWay :: .ref m_isKept :: .int i_undoMany :: .ref m_tape :: .int i_length :: .int i_size :: .int i_p :: .int i_at :: .int i_token :: .int i_number :: .int i_letterMany :: .int i_fault :: .int i_faultAt :: .ref m_letters :: .int i_isKnown :: .ref m_choice :: .ref m_row :: .ref m_up :: .ref m_low :: .ref m_m :: .ref m_bestUp :: .ref m_bestLow :: .ref m_replyUp :: .ref m_replyLow :: .ref m_worthUp :: .ref m_worthLow :: .ref m_bestWay :: .int i_seed :: .ref m_told :: .int i_toldMany :: []))), (m_s, .inl (g 0, 193, .inl sf)), (m_choice, .inl (g 0, 12, .inl f_40636))] H → va_D A [(mm, .inr (12, (.int i_thrown :: .ref m_s :: .ref m_spare :: .ref m_kept :: .ref m_undone :: .ref m_triedWay :: .ref m_isKept :: .int i_undoMany :: .ref m_tape :: .int i_length :: .int i_size :: .int i_p :: .int i_at :: .int i_token :: .int i_number :: .int i_letterMany :: .int i_fault :: .int i_faultAt :: .ref m_letters :: .int i_isKnown :: .ref m_choice :: .ref m_row :: .ref m_up :: .ref m_low :: .ref m_m :: .ref m_bestUp :: .ref m_bestLow :: .ref m_replyUp :: .ref m_replyLow :: .ref m_worthUp :: .ref m_worthLow :: .ref m_bestWay :: .int i_seed :: .ref m_told :: .int i_toldMany :: []))), (m_s, .inl (g 0, 193, .inl sf)), (m_choice, .inl (g 0, 12, .inl f_40636))] → va_S A s.heap H locs → lv_has ls 3 [(2, .int x_40635), (0, .ref mm), (1, .int 2)] → W p l e (headSpec (.code yX12_nextPlan cX12_nextPlan 3 (some .boolean) :: wsL_law) ({ frames := 1, cells := 0, slots := 0, locals := 22 })).room s m args below meth c H locs 0 0 (MQ below (va_Qi (fun (r u : Int32) => u = r ∧ (0 ≤ (r : Int32).toInt ∧ (r : Int32).toInt ≤ 1)) (fun r t => ∃ ochf : Nat → Int32, (∀ j : Nat, 0 ≤ (ochf j).toInt ∧ (ochf j).toInt ≤ 2) ∧ (NPr sf 2 chf ochf r) ∧ va_P D vwCl [(mm, .inr (12, (.int i_thrown :: .ref m_s :: .ref m_spare :: .ref m_kept :: .ref m_undone :: .ref m_triedWay :: .ref m_isKept :: .int i_undoMany :: .ref m_tape :: .int i_length :: .int i_size :: .int i_p :: .int i_at :: .int i_token :: .int i_number :: .int i_letterMany :: .int i_fault :: .int i_faultAt :: .ref m_letters :: .int i_isKnown :: .ref m_choice :: .ref m_row :: .ref m_up :: .ref m_low :: .ref m_m :: .ref m_bestUp :: .ref m_bestLow :: .ref m_replyUp :: .ref m_replyLow :: .ref m_worthUp :: .ref m_worthLow :: .ref m_bestWay :: .int i_seed :: .ref m_told :: .int i_toldMany :: []))), (m_s, .inl (g 0, 193, .inl sf)), (m_choice, .inl (g 0, 12, .inl ochf))] t.heap ∧ va_D A [(mm, .inr (12, (.int i_thrown :: .ref m_s :: .ref m_spare :: .ref m_kept :: .ref m_undone :: .ref m_triedWay :: .ref m_isKept :: .int i_undoMany :: .ref m_tape :: .int i_length :: .int i_size :: .int i_p :: .int i_at :: .int i_token :: .int i_number :: .int i_letterMany :: .int i_fault :: .int i_faultAt :: .ref m_letters :: .int i_isKnown :: .ref m_choice :: .ref m_row :: .ref m_up :: .ref m_low :: .ref m_m :: .ref m_bestUp :: .ref m_bestLow :: .ref m_replyUp :: .ref m_replyLow :: .ref m_worthUp :: .ref m_worthLow :: .ref m_bestWay :: .int i_seed :: .ref m_told :: .int i_toldMany :: []))), (m_s, .inl (g 0, 193, .inl sf)), (m_choice, .inl (g 0, 12, .inl ochf))]) A) args s 0 0 A) (F0 m 9 ls []) := by
    intro n_40637
    induction n_40637 with
    | zero =>
      intro x_40635 f_40636 H locs ls h_x_40635 h_f_40636 hr40637_0 hr40637_1 hm_40637 hP hD hS hl
      exfalso; omega
    | succ n_40637 ih_40637 =>
      intro x_40635 f_40636 H locs ls h_x_40635 h_f_40636 hr40637_0 hr40637_1 hm_40637 hP hD hS hl
      refine lv_iload_n hx hb dX12_nextPlan_9 rfl (lv_at hl 0 rfl) ?_
      refine lv_if_lt (tgt := 80) hx hb dX12_nextPlan_10 (by decide) (fun c_40638 => ?_) (fun c_40638 => ?_)
      · skip
        have kk_0 := tk_0
        have c_40638_i := Int32.lt_iff_toInt_lt.mp c_40638
        have h_40639 : (-1) ≤ (x_40635 : Int32).toInt ∧ (x_40635 : Int32).toInt ≤ (-1) := nr_lt_l h_x_40635 (⟨by decide, by decide⟩ : 0 ≤ (0 : Int32).toInt ∧ (0 : Int32).toInt ≤ 0) c_40638_i (by decide) (by decide)
        refine lv_iconst (v := 0) hx hb dX12_nextPlan_80 (by decide) ?_
        have hP9 := hP.sub (ws' := [(mm, .inr (12, (.int i_thrown :: .ref m_s :: .ref m_spare :: .ref m_kept :: .ref m_undone :: .ref m_triedWay :: .ref m_isKept :: .int i_undoMany :: .ref m_tape :: .int i_length :: .int i_size :: .int i_p :: .int i_at :: .int i_token :: .int i_number :: .int i_letterMany :: .int i_fault :: .int i_faultAt :: .ref m_letters :: .int i_isKnown :: .ref m_choice :: .ref m_row :: .ref m_up :: .ref m_low :: .ref m_m :: .ref m_bestUp :: .ref m_bestLow :: .ref m_replyUp :: .ref m_replyLow :: .ref m_worthUp :: .ref m_worthLow :: .ref m_bestWay :: .int i_seed :: .ref m_told :: .int i_toldMany :: []))), (m_s, .inl (g 0, 193, .inl sf)), (m_choice, .inl (g 0, 12, .inl f_40636))]) [0, 1, 2] rfl
        have hD9 := hD.sub (ws' := [(mm, .inr (12, (.int i_thrown :: .ref m_s :: .ref m_spare :: .ref m_kept :: .ref m_undone :: .ref m_triedWay :: .ref m_isKept :: .int i_undoMany :: .ref m_tape :: .int i_length :: .int i_size :: .int i_p :: .int i_at :: .int i_token :: .int i_number :: .int i_letterMany :: .int i_fault :: .int i_faultAt :: .ref m_letters :: .int i_isKnown :: .ref m_choice :: .ref m_row :: .ref m_up :: .ref m_low :: .ref m_m :: .ref m_bestUp :: .ref m_bestLow :: .ref m_replyUp :: .ref m_replyLow :: .ref m_worthUp :: .ref m_worthLow :: .ref m_bestWay :: .int i_seed :: .ref m_told :: .int i_toldMany :: []))), (m_s, .inl (g 0, 193, .inl sf)), (m_choice, .inl (g 0, 12, .inl f_40636))]) [0, 1, 2] (by decide) rfl
        exact W.zret (v := 0) hx hb hr (by decide) (fun t ht hW => ⟨⟨0, 0, rfl, ⟨rfl, (⟨by decide, by decide⟩ : 0 ≤ (0 : Int32).toInt ∧ (0 : Int32).toInt ≤ 1)⟩, f_40636, (tr_wa h_f_40636 (by decide) (by decide)), (NPr_last hG (by decide) hr40637_0 hL (by (first | (clear h_i_undoMany h_i_length h_i_size h_i_p h_i_at h_i_token h_i_number h_i_letterMany h_i_faultAt h_i_isKnown h_i_toldMany h_v_40574 g_v_40574 gi_v_40574 h_v_40575 q_v_40575 h_x_40635 c_40638_i h_40639; omega) | omega)) (by decide)), by rw [ht]; exact hP9, hD9⟩, hS.F ht⟩) hS.2.2 dX12_nextPlan_81
      · skip
        have kk_0 := tk_0
        have c_40638_i := Int32.le_iff_toInt_le.mp (Int32.not_lt.mp c_40638)
        have h_40640 : 0 ≤ (x_40635 : Int32).toInt ∧ (x_40635 : Int32).toInt ≤ 11 := nr_le_r (⟨by decide, by decide⟩ : 0 ≤ (0 : Int32).toInt ∧ (0 : Int32).toInt ≤ 0) h_x_40635 c_40638_i (by decide) (by decide)
        refine lv_aload_n hx hb dX12_nextPlan_13 rfl (lv_at hl 1 rfl) ?_
        refine lv_iload_n hx hb dX12_nextPlan_14 rfl (lv_at hl 0 rfl) ?_
        refine lv_iload_n hx hb dX12_nextPlan_15 rfl (lv_at hl 2 rfl) ?_
        have hPc := hP.sub (ws' := [(mm, .inr (12, (.int i_thrown :: .ref m_s :: .ref m_spare :: .ref m_kept :: .ref m_undone :: .ref m_triedWay :: .ref m_isKept :: .int i_undoMany :: .ref m_tape :: .int i_length :: .int i_size :: .int i_p :: .int i_at :: .int i_token :: .int i_number :: .int i_letterMany :: .int i_fault :: .int i_faultAt :: .ref m_letters :: .int i_isKnown :: .ref m_choice :: .ref m_row :: .ref m_up :: .ref m_low :: .ref m_m :: .ref m_bestUp :: .ref m_bestLow :: .ref m_replyUp :: .ref m_replyLow :: .ref m_worthUp :: .ref m_worthLow :: .ref m_bestWay :: .int i_seed :: .ref m_told :: .int i_toldMany :: []))), (m_s, .inl (g 0, 193, .inl sf))]) [0, 1] rfl
        refine vp_callSi (va_Run.run (va_runV (As := [.int x_40635, .int 2]) (rest := []) ⟨hx, hb, hml, hown, hts⟩ (c_X12_isKind l D g mm x_40635 2 i_thrown m_s m_spare m_kept m_undone m_triedWay m_isKept i_undoMany m_tape i_length i_size i_p i_at i_token i_number i_letterMany i_fault i_faultAt m_letters i_isKnown m_choice m_row m_up m_low m_m m_bestUp m_bestLow m_replyUp m_replyLow m_worthUp m_worthLow m_bestWay i_seed m_told i_toldMany sf (tr_w h_40640 (by decide) (by decide)) (tr_w h_i_undoMany (by decide) (by decide)) (tr_w h_i_length (by decide) (by decide)) (tr_w h_i_size (by decide) (by decide)) (tr_w h_i_p (by decide) (by decide)) (tr_w h_i_at (by decide) (by decide)) (tr_w h_i_token (by decide) (by decide)) (tr_w h_i_number (by decide) (by decide)) (tr_w h_i_letterMany (by decide) (by decide)) (tr_w h_i_faultAt (by decide) (by decide)) (tr_w h_i_isKnown (by decide) (by decide)) (tr_w h_i_toldMany (by decide) (by decide)) hG) (cwV 2 hts (tz_gV qw_94 qw_95 qw_96 qw_3 qw_97) rfl rfl rfl (by decide +kernel) ⟨Nat.le_of_ble_eq_true rfl, Nat.le_of_ble_eq_true rfl⟩) ⟨tz_blS, va_recv hK hPc (ci := 12) (q0 := 0) rfl rfl, tz_preS hPc hK⟩ rfl rfl hl.1 rfl (lv_room (Nat.le_of_ble_eq_true rfl)) dX12_nextPlan_16 ⟨Nat.le_of_ble_eq_true rfl, Nat.le_of_ble_eq_true rfl⟩)) (fun r_40641 hw => ?_)
        have kk_2 := tk_2
        have hw_40642 : 0 ≤ (r_40641 : Int32).toInt ∧ (r_40641 : Int32).toInt ≤ 1 := hw.1
        have hw_40642_p0 : Hide (¬ (r_40641 : Int32).toInt = 0 → (sf (1 + (x_40635 : Int32).toInt.toNat)).toInt = (2 : Int32).toInt) := hw.2.1
        have hw_40642_p1 : Hide ((r_40641 : Int32).toInt = 0 → ¬ (sf (1 + (x_40635 : Int32).toInt.toNat)).toInt = (2 : Int32).toInt) := hw.2.2
        refine lv_if_eq (tgt := 74) hx hb dX12_nextPlan_19 (by decide) (fun c_40643 => ?_) (fun c_40643 => ?_)
        · skip
          have c_40643_i : (r_40641 : Int32).toInt = (0 : Int32).toInt := congrArg Int32.toInt c_40643
          have hw_40642_p1_u := (hw_40642_p1).get (c_40643_i.trans tk_0)
          have h_40644 : 0 ≤ (r_40641 : Int32).toInt ∧ (r_40641 : Int32).toInt ≤ 0 := nr_eq_l hw_40642 (⟨by decide, by decide⟩ : 0 ≤ (0 : Int32).toInt ∧ (0 : Int32).toInt ≤ 0) c_40643_i (by decide) (by decide)
          obtain ⟨v_40646, v_40646_e⟩ : ∃ y : Int32, y = x_40635 + Int32.ofInt (-1) := ⟨_, rfl⟩
          have h_v_40646 : (-1) ≤ (v_40646 : Int32).toInt ∧ (v_40646 : Int32).toInt ≤ 10 := by rw [v_40646_e]; exact tr_add h_40640 (⟨by decide, by decide⟩ : (-1) ≤ (Int32.ofInt (-1) : Int32).toInt ∧ (Int32.ofInt (-1) : Int32).toInt ≤ (-1)) (by decide) (by decide) (by decide) (by decide)
          have q_v_40646 : v_40646.toInt = x_40635.toInt + (-1) := by rw [v_40646_e]; exact tr_addE h_40640 (⟨by decide, by decide⟩ : (-1) ≤ (Int32.ofInt (-1) : Int32).toInt ∧ (Int32.ofInt (-1) : Int32).toInt ≤ (-1)) (by decide) (by decide)
          refine lv_iinc (v := v_40646) (lv' := [(2, .int v_40646), (0, .ref mm), (1, .int 2)]) hx hb dX12_nextPlan_74 hl (k := 0) rfl v_40646_e.symm (by decide) rfl (fun ls hl => ?_)
          refine lv_goto (tgt := 9) hx hb dX12_nextPlan_77 (by decide) ?_
          exact ih_40637 v_40646 f_40636 H _ ls (tr_w h_v_40646 (by decide) (by decide)) (tr_wa h_f_40636 (by decide) (by decide)) (NPi_skip (k := x_40635.toInt.toNat) hr40637_0 (by have z_d := tk_2; have z_0 := tk_0; (first | (clear h_i_undoMany h_i_length h_i_size h_i_p h_i_at h_i_token h_i_number h_i_letterMany h_i_faultAt h_i_isKnown h_i_toldMany h_v_40574 g_v_40574 gi_v_40574 h_v_40575 q_v_40575 hw_40642 c_40643_i h_40644; omega) | omega)) (by (first | (clear h_i_undoMany h_i_length h_i_size h_i_p h_i_at h_i_token h_i_number h_i_letterMany h_i_faultAt h_i_isKnown h_i_toldMany h_v_40574 g_v_40574 gi_v_40574 h_v_40575 q_v_40575 hw_40642 c_40643_i h_40644; omega) | omega)) (by (first | (clear h_i_undoMany h_i_length h_i_size h_i_p h_i_at h_i_token h_i_number h_i_letterMany h_i_faultAt h_i_isKnown h_i_toldMany h_v_40574 g_v_40574 gi_v_40574 h_v_40575 q_v_40575 hw_40642 c_40643_i h_40644; omega) | omega))) (by have z_0 := tk_0; (first | (clear h_i_undoMany h_i_length h_i_size h_i_p h_i_at h_i_token h_i_number h_i_letterMany h_i_faultAt h_i_isKnown h_i_toldMany h_v_40574 g_v_40574 gi_v_40574 h_v_40575 q_v_40575 hw_40642 c_40643_i h_40644; omega) | omega)) (by (first | (clear h_i_undoMany h_i_length h_i_size h_i_p h_i_at h_i_token h_i_number h_i_letterMany h_i_faultAt h_i_isKnown h_i_toldMany h_v_40574 g_v_40574 gi_v_40574 h_v_40575 q_v_40575 hw_40642 c_40643_i h_40644; omega) | omega)) (hP.sub [0, 1, 2] rfl) (hD.sub [0, 1, 2] (by decide) rfl) hS (lv_sub hl [0, 1, 2] rfl)
        · skip
          have c_40643_i : ¬ (r_40641 : Int32).toInt = (0 : Int32).toInt := (fun q => c_40643 (Int32.toInt_inj.mp q))
          have hw_40642_p0_u := (hw_40642_p0).get (fun q => c_40643_i (q.trans tk_0.symm))
          have h_40645 : 1 ≤ (r_40641 : Int32).toInt ∧ (r_40641 : Int32).toInt ≤ 1 := nr_ne_l hw_40642 (⟨by decide, by decide⟩ : 0 ≤ (0 : Int32).toInt ∧ (0 : Int32).toInt ≤ 0) c_40643_i (by decide) (by decide)
          refine lv_aload_n hx hb dX12_nextPlan_22 rfl (lv_at hl 1 rfl) ?_
          refine va_get (D := D) (ci := 12) (v := .ref m_s) (C := RX12) (T := TX12) (N := 35) hx hb hts inlX12 hown hK hP 0 rfl rfl 1 (by decide) (hts (Cond.fieldLink RX12 13 "ChanceRingsModel" "s" "[I") qw_73) (fun _ h9 => h9) rfl dX12_nextPlan_23 ?_
          refine lv_bipush (v := 109) hx hb dX12_nextPlan_26 (by decide) ?_
          refine lv_iload_n hx hb dX12_nextPlan_28 rfl (lv_at hl 0 rfl) ?_
          refine lv_iadd hx hb dX12_nextPlan_29 ?_
          refine lv_topi (fun v_40647 v_40647_e => ?_)
          have h_v_40647 : 109 ≤ (v_40647 : Int32).toInt ∧ (v_40647 : Int32).toInt ≤ 120 := by rw [v_40647_e]; exact tr_add (⟨by decide, by decide⟩ : 109 ≤ (109 : Int32).toInt ∧ (109 : Int32).toInt ≤ 109) h_40640 (by decide) (by decide) (by decide) (by decide)
          have q_v_40647 : v_40647.toInt = 109 + x_40635.toInt := by rw [v_40647_e]; exact (tr_addX (⟨by decide, by decide⟩ : 109 ≤ (109 : Int32).toInt ∧ (109 : Int32).toInt ≤ 109) h_40640 (by decide) (by decide)).trans (by rw [tk_109])
          refine va_iald hx hb hK hP 1 0 rfl rfl (tr_in h_v_40647 (by decide) (by decide)) dX12_nextPlan_30 ?_
          refine lv_topi (fun v_40648 v_40648_e => ?_)
          have h_v_40648 : (-1) ≤ (v_40648 : Int32).toInt ∧ (v_40648 : Int32).toInt ≤ 2 := by rw [v_40648_e]; exact gr_held hG.r (tr_w h_v_40647 (by decide) (by decide))
          have g_v_40648 : v_40648 = sf (109 + x_40635.toInt.toNat) := v_40648_e.trans (congrArg sf (by show Int.toNat _ = _; (first | (clear h_i_undoMany h_i_length h_i_size h_i_p h_i_at h_i_token h_i_number h_i_letterMany h_i_faultAt h_i_isKnown h_i_toldMany h_f_40636 hw_40642 c_40643_i h_40645; omega) | omega)))
          have gi_v_40648 := congrArg Int32.toInt g_v_40648
          refine lv_if_lt (tgt := 37) hx hb dX12_nextPlan_31 (by decide) (fun c_40649 => ?_) (fun c_40649 => ?_)
          · skip
            have c_40649_i := Int32.lt_iff_toInt_lt.mp c_40649
            have h_40650 : (-1) ≤ (v_40648 : Int32).toInt ∧ (v_40648 : Int32).toInt ≤ (-1) := nr_lt_l h_v_40648 (⟨by decide, by decide⟩ : 0 ≤ (0 : Int32).toInt ∧ (0 : Int32).toInt ≤ 0) c_40649_i (by decide) (by decide)
            refine lv_aload_n hx hb dX12_nextPlan_37 rfl (lv_at hl 1 rfl) ?_
            refine va_get (D := D) (ci := 12) (v := .ref m_choice) (C := RX12) (T := TX12) (N := 35) hx hb hts inlX12 hown hK hP 0 rfl rfl 20 (by decide) (hts (Cond.fieldLink RX12 40 "ChanceRingsModel" "choice" "[I") qw_125) (fun _ h9 => h9) rfl dX12_nextPlan_38 ?_
            refine lv_iload_n hx hb dX12_nextPlan_41 rfl (lv_at hl 0 rfl) ?_
            refine lv_dup2_11 hx hb dX12_nextPlan_42 rfl rfl ?_
            refine va_iald hx hb hK hP 2 0 rfl rfl (tr_in h_40640 (by decide) (by decide)) dX12_nextPlan_43 ?_
            refine lv_topi (fun v_40652 v_40652_e => ?_)
            have h_v_40652 : 0 ≤ (v_40652 : Int32).toInt ∧ (v_40652 : Int32).toInt ≤ 2 := by rw [v_40652_e]; exact h_f_40636 _
            have g_v_40652 : v_40652 = f_40636 (x_40635.toInt.toNat) := v_40652_e.trans (congrArg f_40636 rfl)
            have gi_v_40652 := congrArg Int32.toInt g_v_40652
            refine lv_iconst (v := 1) hx hb dX12_nextPlan_44 (by decide) ?_
            refine lv_iadd hx hb dX12_nextPlan_45 ?_
            refine lv_topi (fun v_40653 v_40653_e => ?_)
            have h_v_40653 : 1 ≤ (v_40653 : Int32).toInt ∧ (v_40653 : Int32).toInt ≤ 3 := by rw [v_40653_e]; exact tr_add h_v_40652 (⟨by decide, by decide⟩ : 1 ≤ (1 : Int32).toInt ∧ (1 : Int32).toInt ≤ 1) (by decide) (by decide) (by decide) (by decide)
            have q_v_40653 : v_40653.toInt = v_40652.toInt + 1 := by rw [v_40653_e]; exact tr_addE h_v_40652 (⟨by decide, by decide⟩ : 1 ≤ (1 : Int32).toInt ∧ (1 : Int32).toInt ≤ 1) (by decide) (by decide)
            refine va_iast hx hb hK hP hD hS 2 0 rfl rfl (tr_in h_40640 (by decide) (by decide)) dX12_nextPlan_46 (fun H locs hP hD hS => ?_)
            obtain ⟨f_40654, f_40654_e, hP, hD⟩ : ∃ FX : Nat → Int32, FX = (upd f_40636 (x_40635 : Int32).toNatClampNeg v_40653) ∧ va_P D vwCl [(mm, .inr (12, (.int i_thrown :: .ref m_s :: .ref m_spare :: .ref m_kept :: .ref m_undone :: .ref m_triedWay :: .ref m_isKept :: .int i_undoMany :: .ref m_tape :: .int i_length :: .int i_size :: .int i_p :: .int i_at :: .int i_token :: .int i_number :: .int i_letterMany :: .int i_fault :: .int i_faultAt :: .ref m_letters :: .int i_isKnown :: .ref m_choice :: .ref m_row :: .ref m_up :: .ref m_low :: .ref m_m :: .ref m_bestUp :: .ref m_bestLow :: .ref m_replyUp :: .ref m_replyLow :: .ref m_worthUp :: .ref m_worthLow :: .ref m_bestWay :: .int i_seed :: .ref m_told :: .int i_toldMany :: []))), (m_s, .inl (g 0, 193, .inl sf)), (m_choice, .inl (g 0, 12, .inl FX))] H ∧ va_D A [(mm, .inr (12, (.int i_thrown :: .ref m_s :: .ref m_spare :: .ref m_kept :: .ref m_undone :: .ref m_triedWay :: .ref m_isKept :: .int i_undoMany :: .ref m_tape :: .int i_length :: .int i_size :: .int i_p :: .int i_at :: .int i_token :: .int i_number :: .int i_letterMany :: .int i_fault :: .int i_faultAt :: .ref m_letters :: .int i_isKnown :: .ref m_choice :: .ref m_row :: .ref m_up :: .ref m_low :: .ref m_m :: .ref m_bestUp :: .ref m_bestLow :: .ref m_replyUp :: .ref m_replyLow :: .ref m_worthUp :: .ref m_worthLow :: .ref m_bestWay :: .int i_seed :: .ref m_told :: .int i_toldMany :: []))), (m_s, .inl (g 0, 193, .inl sf)), (m_choice, .inl (g 0, 12, .inl FX))] := ⟨_, rfl, hP, hD⟩
            have hP : va_P D vwCl [(mm, .inr (12, (.int i_thrown :: .ref m_s :: .ref m_spare :: .ref m_kept :: .ref m_undone :: .ref m_triedWay :: .ref m_isKept :: .int i_undoMany :: .ref m_tape :: .int i_length :: .int i_size :: .int i_p :: .int i_at :: .int i_token :: .int i_number :: .int i_letterMany :: .int i_fault :: .int i_faultAt :: .ref m_letters :: .int i_isKnown :: .ref m_choice :: .ref m_row :: .ref m_up :: .ref m_low :: .ref m_m :: .ref m_bestUp :: .ref m_bestLow :: .ref m_replyUp :: .ref m_replyLow :: .ref m_worthUp :: .ref m_worthLow :: .ref m_bestWay :: .int i_seed :: .ref m_told :: .int i_toldMany :: []))), (m_s, .inl (g 0, 193, .inl sf)), (m_choice, .inl (g 0, 12, .inl f_40654))] H := hP
            have hD : va_D A [(mm, .inr (12, (.int i_thrown :: .ref m_s :: .ref m_spare :: .ref m_kept :: .ref m_undone :: .ref m_triedWay :: .ref m_isKept :: .int i_undoMany :: .ref m_tape :: .int i_length :: .int i_size :: .int i_p :: .int i_at :: .int i_token :: .int i_number :: .int i_letterMany :: .int i_fault :: .int i_faultAt :: .ref m_letters :: .int i_isKnown :: .ref m_choice :: .ref m_row :: .ref m_up :: .ref m_low :: .ref m_m :: .ref m_bestUp :: .ref m_bestLow :: .ref m_replyUp :: .ref m_replyLow :: .ref m_worthUp :: .ref m_worthLow :: .ref m_bestWay :: .int i_seed :: .ref m_told :: .int i_toldMany :: []))), (m_s, .inl (g 0, 193, .inl sf)), (m_choice, .inl (g 0, 12, .inl f_40654))] := hD
            refine lv_aload_n hx hb dX12_nextPlan_47 rfl (lv_at hl 1 rfl) ?_
            refine va_get (D := D) (ci := 12) (v := .ref m_choice) (C := RX12) (T := TX12) (N := 35) hx hb hts inlX12 hown hK hP 0 rfl rfl 20 (by decide) (hts (Cond.fieldLink RX12 40 "ChanceRingsModel" "choice" "[I") qw_125) (fun _ h9 => h9) rfl dX12_nextPlan_48 ?_
            refine lv_iload_n hx hb dX12_nextPlan_51 rfl (lv_at hl 0 rfl) ?_
            refine va_iald hx hb hK hP 2 0 rfl rfl (tr_in h_40640 (by decide) (by decide)) dX12_nextPlan_52 ?_
            refine lv_topi (fun v_40655 v_40655_e => ?_)
            have g_v_40655 : v_40655 = f_40654 (x_40635.toInt.toNat) := v_40655_e.trans (congrArg f_40654 rfl)
            have gi_v_40655 := congrArg Int32.toInt g_v_40655
            have e5 : v_40655 = v_40653 := g_v_40655.trans (by rw [f_40654_e]; exact upd_at _ _ _)
            have e5_i := congrArg Int32.toInt e5
            refine lv_aload_n hx hb dX12_nextPlan_53 rfl (lv_at hl 1 rfl) ?_
            refine va_get (D := D) (ci := 12) (v := .ref m_s) (C := RX12) (T := TX12) (N := 35) hx hb hts inlX12 hown hK hP 0 rfl rfl 1 (by decide) (hts (Cond.fieldLink RX12 13 "ChanceRingsModel" "s" "[I") qw_73) (fun _ h9 => h9) rfl dX12_nextPlan_54 ?_
            refine lv_bipush (v := 25) hx hb dX12_nextPlan_57 (by decide) ?_
            refine lv_iload_n hx hb dX12_nextPlan_59 rfl (lv_at hl 0 rfl) ?_
            refine lv_iadd hx hb dX12_nextPlan_60 ?_
            refine lv_topi (fun v_40656 v_40656_e => ?_)
            have h_v_40656 : 25 ≤ (v_40656 : Int32).toInt ∧ (v_40656 : Int32).toInt ≤ 36 := by rw [v_40656_e]; exact tr_add (⟨by decide, by decide⟩ : 25 ≤ (25 : Int32).toInt ∧ (25 : Int32).toInt ≤ 25) h_40640 (by decide) (by decide) (by decide) (by decide)
            have q_v_40656 : v_40656.toInt = 25 + x_40635.toInt := by rw [v_40656_e]; exact (tr_addX (⟨by decide, by decide⟩ : 25 ≤ (25 : Int32).toInt ∧ (25 : Int32).toInt ≤ 25) h_40640 (by decide) (by decide)).trans (by rw [tk_25])
            refine va_iald hx hb hK hP 1 0 rfl rfl (tr_in h_v_40656 (by decide) (by decide)) dX12_nextPlan_61 ?_
            refine lv_topi (fun v_40657 v_40657_e => ?_)
            have h_v_40657 : 0 ≤ (v_40657 : Int32).toInt ∧ (v_40657 : Int32).toInt ≤ 3 := by rw [v_40657_e]; exact gr_ways hG.r (tr_w h_v_40656 (by decide) (by decide))
            have g_v_40657 : v_40657 = sf (25 + x_40635.toInt.toNat) := v_40657_e.trans (congrArg sf (by show Int.toNat _ = _; (first | (clear h_i_undoMany h_i_length h_i_size h_i_p h_i_at h_i_token h_i_number h_i_letterMany h_i_faultAt h_i_isKnown h_i_toldMany hw_40642 c_40643_i h_40645; omega) | omega)))
            have gi_v_40657 := congrArg Int32.toInt g_v_40657
            refine lv_icmp_ge (tgt := 67) hx hb dX12_nextPlan_62 (by decide) (fun c_40658 => ?_) (fun c_40658 => ?_)
            · skip
              have c_40658_i := Int32.le_iff_toInt_le.mp c_40658
              have h_40659 : 0 ≤ (v_40655 : Int32).toInt ∧ (v_40655 : Int32).toInt ≤ 2147483647 := nr_le_r h_v_40657 (tr_any v_40655) c_40658_i (by decide) (by decide)
              refine lv_aload_n hx hb dX12_nextPlan_67 rfl (lv_at hl 1 rfl) ?_
              refine va_get (D := D) (ci := 12) (v := .ref m_choice) (C := RX12) (T := TX12) (N := 35) hx hb hts inlX12 hown hK hP 0 rfl rfl 20 (by decide) (hts (Cond.fieldLink RX12 40 "ChanceRingsModel" "choice" "[I") qw_125) (fun _ h9 => h9) rfl dX12_nextPlan_68 ?_
              refine lv_iload_n hx hb dX12_nextPlan_71 rfl (lv_at hl 0 rfl) ?_
              refine lv_iconst (v := 0) hx hb dX12_nextPlan_72 (by decide) ?_
              refine va_iast hx hb hK hP hD hS 2 0 rfl rfl (tr_in h_40640 (by decide) (by decide)) dX12_nextPlan_73 (fun H locs hP hD hS => ?_)
              obtain ⟨f_40661, f_40661_e, hP, hD⟩ : ∃ FX : Nat → Int32, FX = (upd f_40654 (x_40635 : Int32).toNatClampNeg 0) ∧ va_P D vwCl [(mm, .inr (12, (.int i_thrown :: .ref m_s :: .ref m_spare :: .ref m_kept :: .ref m_undone :: .ref m_triedWay :: .ref m_isKept :: .int i_undoMany :: .ref m_tape :: .int i_length :: .int i_size :: .int i_p :: .int i_at :: .int i_token :: .int i_number :: .int i_letterMany :: .int i_fault :: .int i_faultAt :: .ref m_letters :: .int i_isKnown :: .ref m_choice :: .ref m_row :: .ref m_up :: .ref m_low :: .ref m_m :: .ref m_bestUp :: .ref m_bestLow :: .ref m_replyUp :: .ref m_replyLow :: .ref m_worthUp :: .ref m_worthLow :: .ref m_bestWay :: .int i_seed :: .ref m_told :: .int i_toldMany :: []))), (m_s, .inl (g 0, 193, .inl sf)), (m_choice, .inl (g 0, 12, .inl FX))] H ∧ va_D A [(mm, .inr (12, (.int i_thrown :: .ref m_s :: .ref m_spare :: .ref m_kept :: .ref m_undone :: .ref m_triedWay :: .ref m_isKept :: .int i_undoMany :: .ref m_tape :: .int i_length :: .int i_size :: .int i_p :: .int i_at :: .int i_token :: .int i_number :: .int i_letterMany :: .int i_fault :: .int i_faultAt :: .ref m_letters :: .int i_isKnown :: .ref m_choice :: .ref m_row :: .ref m_up :: .ref m_low :: .ref m_m :: .ref m_bestUp :: .ref m_bestLow :: .ref m_replyUp :: .ref m_replyLow :: .ref m_worthUp :: .ref m_worthLow :: .ref m_bestWay :: .int i_seed :: .ref m_told :: .int i_toldMany :: []))), (m_s, .inl (g 0, 193, .inl sf)), (m_choice, .inl (g 0, 12, .inl FX))] := ⟨_, rfl, hP, hD⟩
              have hP : va_P D vwCl [(mm, .inr (12, (.int i_thrown :: .ref m_s :: .ref m_spare :: .ref m_kept :: .ref m_undone :: .ref m_triedWay :: .ref m_isKept :: .int i_undoMany :: .ref m_tape :: .int i_length :: .int i_size :: .int i_p :: .int i_at :: .int i_token :: .int i_number :: .int i_letterMany :: .int i_fault :: .int i_faultAt :: .ref m_letters :: .int i_isKnown :: .ref m_choice :: .ref m_row :: .ref m_up :: .ref m_low :: .ref m_m :: .ref m_bestUp :: .ref m_bestLow :: .ref m_replyUp :: .ref m_replyLow :: .ref m_worthUp :: .ref m_worthLow :: .ref m_bestWay :: .int i_seed :: .ref m_told :: .int i_toldMany :: []))), (m_s, .inl (g 0, 193, .inl sf)), (m_choice, .inl (g 0, 12, .inl f_40661))] H := hP
              have hD : va_D A [(mm, .inr (12, (.int i_thrown :: .ref m_s :: .ref m_spare :: .ref m_kept :: .ref m_undone :: .ref m_triedWay :: .ref m_isKept :: .int i_undoMany :: .ref m_tape :: .int i_length :: .int i_size :: .int i_p :: .int i_at :: .int i_token :: .int i_number :: .int i_letterMany :: .int i_fault :: .int i_faultAt :: .ref m_letters :: .int i_isKnown :: .ref m_choice :: .ref m_row :: .ref m_up :: .ref m_low :: .ref m_m :: .ref m_bestUp :: .ref m_bestLow :: .ref m_replyUp :: .ref m_replyLow :: .ref m_worthUp :: .ref m_worthLow :: .ref m_bestWay :: .int i_seed :: .ref m_told :: .int i_toldMany :: []))), (m_s, .inl (g 0, 193, .inl sf)), (m_choice, .inl (g 0, 12, .inl f_40661))] := hD
              have h_40662 : ∀ j : Nat, 0 ≤ (f_40661 j).toInt ∧ (f_40661 j).toInt ≤ 2 := tr_upd2 h_f_40636 f_40654_e f_40661_e ⟨by decide, by decide⟩
              obtain ⟨v_40663, v_40663_e⟩ : ∃ y : Int32, y = x_40635 + Int32.ofInt (-1) := ⟨_, rfl⟩
              have h_v_40663 : (-1) ≤ (v_40663 : Int32).toInt ∧ (v_40663 : Int32).toInt ≤ 10 := by rw [v_40663_e]; exact tr_add h_40640 (⟨by decide, by decide⟩ : (-1) ≤ (Int32.ofInt (-1) : Int32).toInt ∧ (Int32.ofInt (-1) : Int32).toInt ≤ (-1)) (by decide) (by decide) (by decide) (by decide)
              have q_v_40663 : v_40663.toInt = x_40635.toInt + (-1) := by rw [v_40663_e]; exact tr_addE h_40640 (⟨by decide, by decide⟩ : (-1) ≤ (Int32.ofInt (-1) : Int32).toInt ∧ (Int32.ofInt (-1) : Int32).toInt ≤ (-1)) (by decide) (by decide)
              refine lv_iinc (v := v_40663) (lv' := [(2, .int v_40663), (0, .ref mm), (1, .int 2)]) hx hb dX12_nextPlan_74 hl (k := 0) rfl v_40663_e.symm (by decide) rfl (fun ls hl => ?_)
              refine lv_goto (tgt := 9) hx hb dX12_nextPlan_77 (by decide) ?_
              exact ih_40637 v_40663 f_40661 H _ ls (tr_w h_v_40663 (by decide) (by decide)) (tr_wa h_40662 (by decide) (by decide)) (NPi_wrap (k := x_40635.toInt.toNat) hr40637_0 hL (by (first | (clear h_i_undoMany h_i_length h_i_size h_i_p h_i_at h_i_token h_i_number h_i_letterMany h_i_faultAt h_i_isKnown h_i_toldMany hw_40642 c_40643_i h_40645; omega) | omega)) (by have z_d := tk_2; have z_0 := tk_0; (first | (clear h_i_undoMany h_i_length h_i_size h_i_p h_i_at h_i_token h_i_number h_i_letterMany h_i_faultAt h_i_isKnown h_i_toldMany hw_40642 c_40643_i h_40645; omega) | omega)) (by have z_d := tk_2; have z_0 := tk_0; (first | (clear h_i_undoMany h_i_length h_i_size h_i_p h_i_at h_i_token h_i_number h_i_letterMany h_i_faultAt h_i_isKnown h_i_toldMany hw_40642 c_40643_i h_40645; omega) | omega)) f_40654_e f_40661_e g_v_40652 (by (first | (clear h_i_undoMany h_i_length h_i_size h_i_p h_i_at h_i_token h_i_number h_i_letterMany h_i_faultAt h_i_isKnown h_i_toldMany hw_40642 c_40643_i h_40645; omega) | omega)) (by (first | (clear h_i_undoMany h_i_length h_i_size h_i_p h_i_at h_i_token h_i_number h_i_letterMany h_i_faultAt h_i_isKnown h_i_toldMany hw_40642 c_40643_i h_40645; omega) | omega)) (by (first | (clear h_i_undoMany h_i_length h_i_size h_i_p h_i_at h_i_token h_i_number h_i_letterMany h_i_faultAt h_i_isKnown h_i_toldMany hw_40642 c_40643_i h_40645; omega) | omega)) (by (first | (clear h_i_undoMany h_i_length h_i_size h_i_p h_i_at h_i_token h_i_number h_i_letterMany h_i_faultAt h_i_isKnown h_i_toldMany hw_40642 c_40643_i h_40645; omega) | omega))) (by have z_0 := tk_0; (first | (clear h_i_undoMany h_i_length h_i_size h_i_p h_i_at h_i_token h_i_number h_i_letterMany h_i_faultAt h_i_isKnown h_i_toldMany hw_40642 c_40643_i h_40645; omega) | omega)) (by (first | (clear h_i_undoMany h_i_length h_i_size h_i_p h_i_at h_i_token h_i_number h_i_letterMany h_i_faultAt h_i_isKnown h_i_toldMany hw_40642 c_40643_i h_40645; omega) | omega)) (hP.sub [0, 1, 2] rfl) (hD.sub [0, 1, 2] (by decide) rfl) hS (lv_sub hl [0, 1, 2] rfl)
            · skip
              have c_40658_i := Int32.lt_iff_toInt_lt.mp (Int32.not_le.mp c_40658)
              have h_40660 : (-2147483648) ≤ (v_40655 : Int32).toInt ∧ (v_40655 : Int32).toInt ≤ 2 := nr_lt_l (tr_any v_40655) h_v_40657 c_40658_i (by decide) (by decide)
              have h_40664 : ∀ j : Nat, 0 ≤ (f_40654 j).toInt ∧ (f_40654 j).toInt ≤ 2 := tr_upd1 h_f_40636 f_40654_e (by (first | (clear h_i_undoMany h_i_length h_i_size h_i_p h_i_at h_i_token h_i_number h_i_letterMany h_i_faultAt h_i_isKnown h_i_toldMany hw_40642 c_40643_i h_40645; omega) | omega))
              refine lv_iconst (v := 1) hx hb dX12_nextPlan_65 (by decide) ?_
              have hP9 := hP.sub (ws' := [(mm, .inr (12, (.int i_thrown :: .ref m_s :: .ref m_spare :: .ref m_kept :: .ref m_undone :: .ref m_triedWay :: .ref m_isKept :: .int i_undoMany :: .ref m_tape :: .int i_length :: .int i_size :: .int i_p :: .int i_at :: .int i_token :: .int i_number :: .int i_letterMany :: .int i_fault :: .int i_faultAt :: .ref m_letters :: .int i_isKnown :: .ref m_choice :: .ref m_row :: .ref m_up :: .ref m_low :: .ref m_m :: .ref m_bestUp :: .ref m_bestLow :: .ref m_replyUp :: .ref m_replyLow :: .ref m_worthUp :: .ref m_worthLow :: .ref m_bestWay :: .int i_seed :: .ref m_told :: .int i_toldMany :: []))), (m_s, .inl (g 0, 193, .inl sf)), (m_choice, .inl (g 0, 12, .inl f_40654))]) [0, 1, 2] rfl
              have hD9 := hD.sub (ws' := [(mm, .inr (12, (.int i_thrown :: .ref m_s :: .ref m_spare :: .ref m_kept :: .ref m_undone :: .ref m_triedWay :: .ref m_isKept :: .int i_undoMany :: .ref m_tape :: .int i_length :: .int i_size :: .int i_p :: .int i_at :: .int i_token :: .int i_number :: .int i_letterMany :: .int i_fault :: .int i_faultAt :: .ref m_letters :: .int i_isKnown :: .ref m_choice :: .ref m_row :: .ref m_up :: .ref m_low :: .ref m_m :: .ref m_bestUp :: .ref m_bestLow :: .ref m_replyUp :: .ref m_replyLow :: .ref m_worthUp :: .ref m_worthLow :: .ref m_bestWay :: .int i_seed :: .ref m_told :: .int i_toldMany :: []))), (m_s, .inl (g 0, 193, .inl sf)), (m_choice, .inl (g 0, 12, .inl f_40654))]) [0, 1, 2] (by decide) rfl
              exact W.zret (v := 1) hx hb hr (by decide) (fun t ht hW => ⟨⟨1, 1, rfl, ⟨rfl, (⟨by decide, by decide⟩ : 0 ≤ (1 : Int32).toInt ∧ (1 : Int32).toInt ≤ 1)⟩, f_40654, (tr_wa h_40664 (by decide) (by decide)), (NPr_next (k := x_40635.toInt.toNat) hG (by decide) hr40637_0 hL (by (first | (clear h_i_undoMany h_i_length h_i_size h_i_p h_i_at h_i_token h_i_number h_i_letterMany h_i_faultAt h_i_isKnown h_i_toldMany hw_40642 c_40643_i h_40645; omega) | omega)) (by have z_d := tk_2; have z_0 := tk_0; (first | (clear h_i_undoMany h_i_length h_i_size h_i_p h_i_at h_i_token h_i_number h_i_letterMany h_i_faultAt h_i_isKnown h_i_toldMany hw_40642 c_40643_i h_40645; omega) | omega)) (by have z_d := tk_2; have z_0 := tk_0; (first | (clear h_i_undoMany h_i_length h_i_size h_i_p h_i_at h_i_token h_i_number h_i_letterMany h_i_faultAt h_i_isKnown h_i_toldMany hw_40642 c_40643_i h_40645; omega) | omega)) f_40654_e g_v_40652 (by (first | (clear h_i_undoMany h_i_length h_i_size h_i_p h_i_at h_i_token h_i_number h_i_letterMany h_i_faultAt h_i_isKnown h_i_toldMany hw_40642 c_40643_i h_40645; omega) | omega)) (by (first | (clear h_i_undoMany h_i_length h_i_size h_i_p h_i_at h_i_token h_i_number h_i_letterMany h_i_faultAt h_i_isKnown h_i_toldMany hw_40642 c_40643_i h_40645; omega) | omega)) (by (first | (clear h_i_undoMany h_i_length h_i_size h_i_p h_i_at h_i_token h_i_number h_i_letterMany h_i_faultAt h_i_isKnown h_i_toldMany hw_40642 c_40643_i h_40645; omega) | omega)) (by decide)), by rw [ht]; exact hP9, hD9⟩, hS.F ht⟩) hS.2.2 dX12_nextPlan_66
          · skip
            have c_40649_i := Int32.le_iff_toInt_le.mp (Int32.not_lt.mp c_40649)
            have h_40651 : 0 ≤ (v_40648 : Int32).toInt ∧ (v_40648 : Int32).toInt ≤ 2 := nr_le_r (⟨by decide, by decide⟩ : 0 ≤ (0 : Int32).toInt ∧ (0 : Int32).toInt ≤ 0) h_v_40648 c_40649_i (by decide) (by decide)
            refine lv_goto (tgt := 74) hx hb dX12_nextPlan_34 (by decide) ?_
            obtain ⟨v_40665, v_40665_e⟩ : ∃ y : Int32, y = x_40635 + Int32.ofInt (-1) := ⟨_, rfl⟩
            have h_v_40665 : (-1) ≤ (v_40665 : Int32).toInt ∧ (v_40665 : Int32).toInt ≤ 10 := by rw [v_40665_e]; exact tr_add h_40640 (⟨by decide, by decide⟩ : (-1) ≤ (Int32.ofInt (-1) : Int32).toInt ∧ (Int32.ofInt (-1) : Int32).toInt ≤ (-1)) (by decide) (by decide) (by decide) (by decide)
            have q_v_40665 : v_40665.toInt = x_40635.toInt + (-1) := by rw [v_40665_e]; exact tr_addE h_40640 (⟨by decide, by decide⟩ : (-1) ≤ (Int32.ofInt (-1) : Int32).toInt ∧ (Int32.ofInt (-1) : Int32).toInt ≤ (-1)) (by decide) (by decide)
            refine lv_iinc (v := v_40665) (lv' := [(2, .int v_40665), (0, .ref mm), (1, .int 2)]) hx hb dX12_nextPlan_74 hl (k := 0) rfl v_40665_e.symm (by decide) rfl (fun ls hl => ?_)
            refine lv_goto (tgt := 9) hx hb dX12_nextPlan_77 (by decide) ?_
            exact ih_40637 v_40665 f_40636 H _ ls (tr_w h_v_40665 (by decide) (by decide)) (tr_wa h_f_40636 (by decide) (by decide)) (NPi_skip (k := x_40635.toInt.toNat) hr40637_0 (by have z_d := tk_2; have z_0 := tk_0; (first | (clear h_i_undoMany h_i_length h_i_size h_i_p h_i_at h_i_token h_i_number h_i_letterMany h_i_faultAt h_i_isKnown h_i_toldMany hw_40642 c_40643_i h_40645; omega) | omega)) (by (first | (clear h_i_undoMany h_i_length h_i_size h_i_p h_i_at h_i_token h_i_number h_i_letterMany h_i_faultAt h_i_isKnown h_i_toldMany hw_40642 c_40643_i h_40645; omega) | omega)) (by (first | (clear h_i_undoMany h_i_length h_i_size h_i_p h_i_at h_i_token h_i_number h_i_letterMany h_i_faultAt h_i_isKnown h_i_toldMany hw_40642 c_40643_i h_40645; omega) | omega))) (by have z_0 := tk_0; (first | (clear h_i_undoMany h_i_length h_i_size h_i_p h_i_at h_i_token h_i_number h_i_letterMany h_i_faultAt h_i_isKnown h_i_toldMany hw_40642 c_40643_i h_40645; omega) | omega)) (by (first | (clear h_i_undoMany h_i_length h_i_size h_i_p h_i_at h_i_token h_i_number h_i_letterMany h_i_faultAt h_i_isKnown h_i_toldMany hw_40642 c_40643_i h_40645; omega) | omega)) (hP.sub [0, 1, 2] rfl) (hD.sub [0, 1, 2] (by decide) rfl) hS (lv_sub hl [0, 1, 2] rfl)
  exact lp_40637 13 v_40575 chf s.heap _ ls (tr_w h_v_40575 (by decide) (by decide)) (tr_wa h_chf (by decide) (by decide)) (NPi_start (by have z_0 := tk_0; (first | (clear h_i_undoMany h_i_length h_i_size h_i_p h_i_at h_i_token h_i_number h_i_letterMany h_i_faultAt h_i_isKnown h_i_toldMany; omega) | omega))) (by have z_0 := tk_0; (first | (clear h_i_undoMany h_i_length h_i_size h_i_p h_i_at h_i_token h_i_number h_i_letterMany h_i_faultAt h_i_isKnown h_i_toldMany; omega) | omega)) (by (first | (clear h_i_undoMany h_i_length h_i_size h_i_p h_i_at h_i_token h_i_number h_i_letterMany h_i_faultAt h_i_isKnown h_i_toldMany; omega) | omega)) (hP.sub [0, 1, 2] rfl) (hD.sub [0, 1, 2] (by decide) rfl) hS (lv_sub hl [0, 1, 2] rfl)
/-! the least of all replies; plans that are bettered step by step come to an end -/
theorem rat_cancel {a b c : Rat} (hc : 0 < c) (h : a * c ≤ b * c) : a ≤ b := Rat.not_lt.mp fun hlt => by
  have := Rat.mul_pos (show 0 < a - b by grind) hc
  grind
def CR (c : Nat → Int32) : Prop := ∀ j : Nat, 0 ≤ (c j).toInt ∧ (c j).toInt ≤ 2
def cN (c : Nat → Int32) : Nat → Nat := fun k => (c k).toInt.toNat
section RP
variable {f c c' : Nat → Int32}
theorem g_leg (hc : CR c) (h1 : LGd f 1 c) (h2 : LGd f 2 c) : pz_L (gNo f) (gPl f) (gAl f) (cN c) := by
  intro k hk hp
  have hp : (f (1 + k)).toInt = 1 ∨ (f (1 + k)).toInt = 2 := by unfold gPl at hp; simpa using hp
  have hc := hc k
  have h : (c k).toInt < (f (25 + k)).toInt ∧ (0 ≤ (f (109 + k)).toInt → (c k).toInt = (f (109 + k)).toInt) := by
    rcases hp with e | e
    · exact h1 k hk e
    · exact h2 k hk e
  refine ⟨by unfold wys cN; omega, ?_⟩
  by_cases q : (f (109 + k)).toInt < 0
  · exact Or.inl q
  · have := h.2 (by omega); unfold cN; right; omega
theorem g_leg2 (hc : CR c) : ∀ k, k < gNo f → gPl f k = true → (c k).toInt = ((cN c k : Nat) : Int) := fun k _ _ => by have := hc k; unfold cN; omega
theorem VAL_u (hG : GS f) (hc : CR c) (h1 : LGd f 1 c) (h2 : LGd f 2 c) {v v' : Nat → Rat} (hv : VAL f c v) (hv' : VAL f c v') {t : Nat} (ht : t < (f 0).toInt.toNat) : v t = v' t :=
  (vof_eq hG (g_leg2 hc) (g_leg hc h1 h2) hv t ht).trans (vof_eq hG (g_leg2 hc) (g_leg hc h1 h2) hv' t ht).symm
theorem gsR_cc {k : Nat} (h : c' k = c k) (v : Nat → Rat) : ∀ m, gsR f c' k v m = gsR f c k v m
  | 0 => rfl
  | m + 1 => by
    show gsR f c' k v m + _ = gsR f c k v m + _
    rw [gsR_cc h v m]
    by_cases q : wsel f c k m
    · have q' : wsel f c' k m := by rcases q with z | z; exact Or.inl z; exact Or.inr (by rw [h]; exact z)
      rw [if_pos q, if_pos q']
    · have q' : ¬ wsel f c' k m := fun z => q (by rcases z with z | z; exact Or.inl z; exact Or.inr (by rw [← h]; exact z))
      rw [if_neg q, if_neg q']
theorem RK_cc (h : ∀ j, j < (f 0).toInt.toNat → c' j = c j) : ∀ m k, RK f c m k → RK f c' m k
  | 0, _, hk => hk
  | m + 1, k, hk => by
    rcases hk with hk | ⟨h1, h2, j, ⟨i, h3, h4, h5⟩, h6⟩
    · exact Or.inl (RK_cc h m k hk)
    · exact Or.inr ⟨h1, h2, j, ⟨i, h3, by rw [h k (by omega)]; exact h4, h5⟩, RK_cc h m j h6⟩
theorem VAL_cong (h : ∀ j, j < (f 0).toInt.toNat → c' j = c j) {v : Nat → Rat} (hv : VAL f c v) : VAL f c' v := by
  have e : ∀ k, RC f c' k ↔ RC f c k := fun k => ⟨fun ⟨m, hm⟩ => ⟨m, RK_cc (fun j hj => (h j hj).symm) m k hm⟩, fun ⟨m, hm⟩ => ⟨m, RK_cc h m k hm⟩⟩
  refine ⟨hv.1, fun k hk h1 h2 => hv.2.1 k hk h1 (fun z => h2 ((e k).mpr z)), fun k hk h1 h2 => ?_⟩
  rw [gsR_cc (h k hk), gsR_cc (h k hk)]
  exact hv.2.2 k hk h1 ((e k).mp h2)
def FRB (x y : Int64) : Prop := 0 < y.toInt ∧ y.toInt ≤ 400000000 ∧ 0 ≤ x.toInt ∧ x.toInt ≤ 3600000000
theorem FRB_mul {x y z w : Int64} (h : FRB x y) (h2 : FRB z w) : (x * w).toInt = x.toInt * w.toInt := by
  have := tl_absmul (a := x.toInt) (b := w.toInt) (A := 3600000000) (B := 400000000) ⟨by have := h.2.2.1; omega, h.2.2.2⟩ ⟨by have := h2.1; omega, h2.2.1⟩
  exact tl_mul (by omega) (by omega)
def frq (x : Int64) : Rat := ((x.toInt : Int) : Rat)
theorem frq_pos {x : Int64} (h : 0 < x.toInt) : 0 < frq x := by unfold frq; exact_mod_cast h
theorem FRB_le {x y z w : Int64} (h : FRB x y) (h2 : FRB z w) (hl : (x * w).toInt ≤ (z * y).toInt) : frq x * frq w ≤ frq z * frq y := by
  rw [FRB_mul h h2, FRB_mul h2 h] at hl
  unfold frq; exact_mod_cast hl
theorem FRB_lt {x y z w : Int64} (h : FRB x y) (h2 : FRB z w) (hl : (x * w).toInt < (z * y).toInt) : frq x * frq w < frq z * frq y := by
  rw [FRB_mul h h2, FRB_mul h2 h] at hl
  unfold frq; exact_mod_cast hl
theorem PLV_fr {u l : Nat → Int64} (h : PLV f c u l) : ∃ v, VAL f c v ∧ ∀ t, t < (f 0).toInt.toNat → FRB (u t) (l t) ∧ frq (u t) = frq (l t) * v t := by
  obtain ⟨v, hv, h2⟩ := h
  refine ⟨v, hv, fun t ht => ?_⟩
  obtain ⟨a, b, c, d, e⟩ := h2 t ht
  exact ⟨⟨a, b, c, d⟩, e⟩
def RPL (f c0 : Nat → Int32) (M : Int) (ru rl : Nat → Int64) : Prop := (∀ t, t < (f 0).toInt.toNat → FRB (ru t) (rl t)) ∧ (∀ c v, CR c → LGd f 2 c → OTH f 2 c0 c → NUM f 2 c (f 0).toInt.toNat < M → VAL f c v → ∀ t, t < (f 0).toInt.toNat → frq (ru t) ≤ frq (rl t) * v t) ∧ ∀ t, t < (f 0).toInt.toNat → ∃ c v, CR c ∧ LGd f 2 c ∧ OTH f 2 c0 c ∧ VAL f c v ∧ frq (ru t) = frq (rl t) * v t
def RPO (f c0 c : Nat → Int32) (first : Int32) (ru rl : Nat → Int64) : Prop := (first.toInt = 0 → RPL f c0 (NUM f 2 c (f 0).toInt.toNat) ru rl) ∧ (¬ first.toInt = 0 → NUM f 2 c (f 0).toInt.toNat = 0)
def RPI (first : Int32) (u l ru0 rl0 ru rl : Nat → Int64) (k : Nat) : Prop := (∀ t, k ≤ t → ru t = ru0 t ∧ rl t = rl0 t) ∧ ∀ t, t < k → (ru t = u t ∧ rl t = l t ∧ (first.toInt = 0 → (u t * rl0 t).toInt < (ru0 t * l t).toInt)) ∨ (ru t = ru0 t ∧ rl t = rl0 t ∧ first.toInt = 0 ∧ (ru0 t * l t).toInt ≤ (u t * rl0 t).toInt)
theorem RPI_zero {first : Int32} {u l ru0 rl0 : Nat → Int64} : RPI first u l ru0 rl0 ru0 rl0 0 := ⟨fun _ _ => ⟨rfl, rfl⟩, fun t h => absurd h (by omega)⟩
theorem RPI_put {first : Int32} {u l ru0 rl0 ru rl ru' rl' : Nat → Int64} {k k2 : Nat} {x y : Int64} (h : RPI first u l ru0 rl0 ru rl k) (hx : x = u k) (hy : y = l k) (e1 : ru' = fun j9 => if j9 = k then x else ru j9) (e2 : rl' = fun j9 => if j9 = k then y else rl j9) (hb : first.toInt = 0 → (u k * rl k).toInt < (ru k * l k).toInt) (hk : k2 = k + 1) : RPI first u l ru0 rl0 ru' rl' k2 := by
  subst hk e1 e2
  obtain ⟨z1, z2⟩ := h.1 k (Nat.le_refl _)
  rw [z1, z2] at hb
  refine ⟨fun t ht => ?_, fun t ht => ?_⟩
  · show (if t = k then x else ru t) = ru0 t ∧ (if t = k then y else rl t) = rl0 t
    rw [if_neg (by omega), if_neg (by omega)]
    exact h.1 t (by omega)
  · show ((if t = k then x else ru t) = u t ∧ (if t = k then y else rl t) = l t ∧ _) ∨ ((if t = k then x else ru t) = ru0 t ∧ (if t = k then y else rl t) = rl0 t ∧ _)
    by_cases q : t = k
    · subst q
      rw [if_pos rfl, if_pos rfl]
      exact Or.inl ⟨hx, hy, hb⟩
    · rw [if_neg q, if_neg q]
      exact h.2 t (by omega)
theorem RPI_skip {first : Int32} {u l ru0 rl0 ru rl : Nat → Int64} {k k2 : Nat} (h : RPI first u l ru0 rl0 ru rl k) (hf : first.toInt = 0) (hb : (ru k * l k).toInt ≤ (u k * rl k).toInt) (hk : k2 = k + 1) : RPI first u l ru0 rl0 ru rl k2 := by
  subst hk
  obtain ⟨z1, z2⟩ := h.1 k (Nat.le_refl _)
  refine ⟨fun t ht => h.1 t (by omega), fun t ht => ?_⟩
  by_cases q : t = k
  · subst q
    rw [z1, z2] at hb
    exact Or.inr ⟨z1, z2, hf, hb⟩
  · exact h.2 t (by omega)
theorem RPI_done (hG : GS f) {c0 : Nat → Int32} {first : Int32} {u l ru0 rl0 ru rl : Nat → Int64} {k : Nat} {M : Int} (hc : CR c) (h1 : LGd f 1 c) (h2 : LGd f 2 c) (ho : OTH f 2 c0 c) (hP : PLV f c u l) (hO : RPO f c0 c first ru0 rl0) (h : RPI first u l ru0 rl0 ru rl k) (hk : k = (f 0).toInt.toNat) (hM : M = NUM f 2 c (f 0).toInt.toNat + 1) : RPL f c0 M ru rl := by
  subst hk hM
  obtain ⟨v, hv, hu⟩ := PLV_fr hP
  refine ⟨fun t ht => ?_, fun c2 v2 hc2 hl2 ho2 hn2 hv2 t ht => ?_, fun t ht => ?_⟩
  · rcases h.2 t ht with ⟨a, b, _⟩ | ⟨a, b, hf, _⟩
    · rw [a, b]; exact (hu t ht).1
    · rw [a, b]; exact (hO.1 hf).1 t ht
  · obtain ⟨b1, e1⟩ := hu t ht
    by_cases q : NUM f 2 c2 (f 0).toInt.toNat = NUM f 2 c (f 0).toInt.toNat
    · have hag : ∀ j, j < (f 0).toInt.toNat → c j = c2 j := fun j hj => by
        by_cases q2 : (f (1 + j)).toInt = 2
        · by_cases q3 : (f (109 + j)).toInt < 0
          · exact (NUM_inj _ (fun j hj e => ⟨(hc2 j).1, (hl2 j hj e).1⟩) (fun j hj e => ⟨(hc j).1, (h2 j hj e).1⟩) q j hj q2 q3).symm
          · have a1 := (hl2 j hj q2).2 (by omega)
            have a2 := (h2 j hj q2).2 (by omega)
            exact Int32.toInt_inj.mp (by omega)
        · rw [ho j hj q2, ho2 j hj q2]
      have ev := VAL_u hG hc h1 h2 (VAL_cong hag hv2) hv ht
      rw [ev]
      rcases h.2 t ht with ⟨a, b, _⟩ | ⟨a, b, hf, hle⟩
      · rw [a, b, e1]; exact Rat.le_refl
      · rw [a, b]
        have b0 := (hO.1 hf).1 t ht
        have hq := FRB_le b0 b1 hle
        have hp := frq_pos b1.1
        refine rat_cancel hp ?_
        rw [e1] at hq
        grind
    · have hlt : NUM f 2 c2 (f 0).toInt.toNat < NUM f 2 c (f 0).toInt.toNat := by omega
      have hn0 := (NUM_in hc2 hl2).1
      have hf : first.toInt = 0 := by
        by_cases q4 : first.toInt = 0
        · exact q4
        · have := hO.2 q4; omega
      have hold := (hO.1 hf).2.1 c2 v2 hc2 hl2 ho2 hlt hv2 t ht
      have b0 := (hO.1 hf).1 t ht
      rcases h.2 t ht with ⟨a, b, hb⟩ | ⟨a, b, _⟩
      · rw [a, b]
        have hq := FRB_lt b1 b0 (hb hf)
        have hp := frq_pos b0.1
        have hp1 := frq_pos b1.1
        refine rat_cancel hp ?_
        have := Rat.mul_le_mul_of_nonneg_right hold (Rat.le_of_lt hp1)
        grind
      · rw [a, b]; exact hold
  · rcases h.2 t ht with ⟨a, b, _⟩ | ⟨a, b, hf, _⟩
    · exact ⟨c, v, hc, h2, ho, hv, by rw [a, b]; exact (hu t ht).2⟩
    · rw [a, b]; exact (hO.1 hf).2.2 t ht
/-! the best reply as a plan -/
def AG (f : Nat → Int32) (s c : Nat → Nat) : Prop := ∀ k, k < gNo f → gMx f k = true → c k = s k
def BST (f : Nat → Int32) (s b : Nat → Nat) : Prop := pz_L (gNo f) (gPl f) (gAl f) b ∧ AG f s b ∧ (∀ c, pz_L (gNo f) (gPl f) (gAl f) c → AG f s c → ∀ k, k < gNo f → vof f b k ≤ vof f c k) ∧ (∀ c, pz_L (gNo f) (gPl f) (gAl f) c → AG f s c → ∀ k, k < gNo f → ¬ pz_C (gEn f) (pz_sc (gPl f) (gCh f) (wtg f) c) k → vof f b k = 0) ∧ ∀ k, k < gNo f → gEn f k = false → gPl f k = true → gMx f k = false → ∀ i, gAl f k i → vof f b k ≤ vof f b (wtg f k i)
def plans : Nat → List (Nat → Nat)
  | 0 => [fun _ => 0]
  | m + 1 => (plans m).flatMap (fun p => [(fun k => if k = m then 0 else p k), (fun k => if k = m then 1 else p k), (fun k => if k = m then 2 else p k)])
theorem plans_mem (p : Nat → Nat) : ∀ m, (∀ k, k < m → p k < 3) → (fun k => if k < m then p k else 0) ∈ plans m
  | 0, _ => by
    rw [show (fun k => if k < 0 then p k else 0) = fun _ => 0 from funext fun k => if_neg (by omega)]
    exact List.mem_singleton.mpr rfl
  | m + 1, h => by
    refine List.mem_flatMap.mpr ⟨_, plans_mem p m (fun k hk => h k (by omega)), ?_⟩
    have e : ∀ x, p m = x → (fun k => if k < m + 1 then p k else 0) = fun k => if k = m then x else (if k < m then p k else 0) := fun x hx => funext fun k => by
      by_cases q : k = m
      · subst q; rw [if_pos (by omega), if_pos rfl, hx]
      · rw [if_neg q]
        by_cases q2 : k < m
        · rw [if_pos q2, if_pos (by omega)]
        · rw [if_neg q2, if_neg (by omega)]
    have h3 := h m (by omega)
    rcases (show p m = 0 ∨ p m = 1 ∨ p m = 2 by omega) with z | z | z
    · rw [e 0 z]; exact List.mem_cons_self
    · rw [e 1 z]; exact List.mem_cons_of_mem _ List.mem_cons_self
    · rw [e 2 z]; exact List.mem_cons_of_mem _ (List.mem_cons_of_mem _ List.mem_cons_self)
theorem vof_same (hG : GS f) {d c : Nat → Nat} (hc : pz_L (gNo f) (gPl f) (gAl f) c) (hd : ∀ k, k < gNo f → gPl f k = true → d k = c k) : ∀ k, k < gNo f → vof f d k = vof f c k := by
  have hx := VAL_ex hG (fun k => Int32.ofInt ((d k % 3 : Nat) : Int))
  exact vof_eq hG (d := fun k => Int32.ofInt ((d k % 3 : Nat) : Int)) (fun k hk hp => by
    rw [← hd k hk hp]
    exact i32_mod (d k) (by rw [hd k hk hp]; have := (hc k hk hp).1; have := g_wys hG hk; omega)) hc (Classical.epsilon_spec hx)
def SL (f : Nat → Int32) (s : Nat → Nat) : Prop := ∀ k, k < gNo f → gMx f k = true → gAl f k (s k)
theorem gMx_pl {k : Nat} (h : gMx f k = true) : gPl f k = true := by
  unfold gMx at h
  have : (f (1 + k)).toInt = 1 := by simpa using h
  unfold gPl; simp [this]
theorem bst_ex (hG : GS f) {s : Nat → Nat} (hs : SL f s) : ∃ b, BST f s b := by
  have h0 := hG.r.1
  have hP : ∃ P : List (Nat → Nat), (∀ c, c ∈ P ↔ c ∈ plans 12 ∧ pz_L (gNo f) (gPl f) (gAl f) c ∧ AG f s c) := ⟨(plans 12).filter (fun c => @decide (pz_L (gNo f) (gPl f) (gAl f) c ∧ AG f s c) (Classical.propDecidable _)), fun c => by rw [List.mem_filter]; exact and_congr_right fun _ => @decide_eq_true_iff _ (Classical.propDecidable _)⟩
  obtain ⟨P, hP⟩ := hP
  have hall : ∀ c, pz_L (gNo f) (gPl f) (gAl f) c → AG f s c → ∃ d, d ∈ P ∧ ∀ k, k < gNo f → gPl f k = true → d k = c k := fun c hc hag => by
    have hlt : ∀ k, k < gNo f → k < 12 := fun k hk => by unfold gNo at hk; omega
    have hd : ∀ k, k < gNo f → gPl f k = true → (fun k => if k < 12 then (fun k => if k < gNo f ∧ gPl f k = true then c k else 0) k else 0) k = c k := fun k hk hp => by
      show (if k < 12 then (if k < gNo f ∧ gPl f k = true then c k else 0) else 0) = c k
      rw [if_pos (hlt k hk), if_pos ⟨hk, hp⟩]
    refine ⟨_, (hP _).mpr ⟨plans_mem (fun k => if k < gNo f ∧ gPl f k = true then c k else 0) 12 (fun k _ => ?_), fun k hk hp => by rw [hd k hk hp]; exact hc k hk hp, fun k hk hp => by rw [hd k hk (gMx_pl hp)]; exact hag k hk hp⟩, hd⟩
    show (if k < gNo f ∧ gPl f k = true then c k else 0) < 3
    by_cases q : k < gNo f ∧ gPl f k = true
    · rw [if_pos q]
      have a1 := (hc k q.1 q.2).1
      have a2 := g_wys hG q.1
      omega
    · rw [if_neg q]; omega
  have hne : P ≠ [] := by
    have hc : pz_L (gNo f) (gPl f) (gAl f) (fun k => if gMx f k = true then s k else (f (109 + k)).toInt.toNat) := fun k hk hp => by
      show gAl f k (if gMx f k = true then s k else (f (109 + k)).toInt.toNat)
      by_cases q : gMx f k = true
      · rw [if_pos q]; exact hs k hk q
      · rw [if_neg q]
        have hp2 : (f (1 + k)).toInt = 1 ∨ (f (1 + k)).toInt = 2 := by unfold gPl at hp; simpa using hp
        have hk' : k < (f 0).toInt.toNat := hk
        have a1 := hG.2 k (by omega) (by omega)
        have a2 := hG.1.2.2.2.2.2.1 k (by omega) (by omega)
        exact ⟨by unfold wys; omega, by omega⟩
    obtain ⟨d, hd, _⟩ := hall _ hc (fun k hk hp => if_pos hp)
    intro e
    rw [e] at hd
    exact absurd hd List.not_mem_nil
  obtain ⟨b, hb, hb1, hb2, hb3⟩ := pz_best (g_N hG) (vof f) (vof_V hG) (s := s) hne (fun c hc => ⟨((hP c).mp hc).2.1, ((hP c).mp hc).2.2⟩) (fun c hc hag => by
    obtain ⟨d, hd, hd2⟩ := hall c hc hag
    exact ⟨d, hd, vof_same hG hc hd2⟩)
  exact ⟨b, ((hP b).mp hb).2.1, ((hP b).mp hb).2.2, hb1, hb2, hb3⟩
noncomputable def bst (f : Nat → Int32) (s : Nat → Nat) : Nat → Nat := Classical.epsilon (fun b => BST f s b)
theorem bst_spec (hG : GS f) {s : Nat → Nat} (hs : SL f s) : BST f s (bst f s) := Classical.epsilon_spec (bst_ex hG hs)
noncomputable def LV (f : Nat → Int32) (s : Nat → Nat) : Rat := pz_m (gNo f) (vof f (bst f s))
noncomputable def MU (f : Nat → Int32) (s : Nat → Nat) : Nat := pz_up (LV f) (plans 12) (LV f s)
theorem LV_same {s t : Nat → Nat} (h : ∀ k, k < gNo f → t k = s k) : LV f t = LV f s := by
  have e1 : AG f t = AG f s := funext fun c => propext ⟨fun q k hk hp => (q k hk hp).trans (h k hk), fun q k hk hp => (q k hk hp).trans (h k hk).symm⟩
  have e2 : BST f t = BST f s := funext fun b => by unfold BST; rw [e1]
  unfold LV bst
  rw [e2]
theorem MU_lt (hG : GS f) {s t : Nat → Nat} (ht : ∀ k, t k < 3) (h : LV f s < LV f t) : MU f t < MU f s := by
  have h0 := hG.r.1
  have e : LV f (fun k => if k < 12 then t k else 0) = LV f t := LV_same (fun k hk => by unfold gNo at hk; exact if_pos (by omega))
  have := pz_up_lt (LV f) (plans 12) _ (LV f s) (plans_mem t 12 (fun k _ => ht k)) (by rw [e]; exact h)
  rw [e] at this
  exact this
theorem RPL_bst (hG : GS f) {c0 : Nat → Int32} {s : Nat → Nat} {ru rl : Nat → Int64} (hc0 : CR c0) (h1 : LGd f 1 c0) (hs : ∀ k, k < (f 0).toInt.toNat → (f (1 + k)).toInt = 1 → (c0 k).toInt = (s k : Int)) (hSL : SL f s) (hR : RPL f c0 (TOT f 2 (f 0).toInt.toNat) ru rl) : ∀ t, t < (f 0).toInt.toNat → frq (ru t) = frq (rl t) * vof f (bst f s) t := by
  have h0 := hG.r.1
  obtain ⟨hb, hag, hmin, _, _⟩ := bst_spec hG hSL
  have hpl1 : ∀ k, (f (1 + k)).toInt = 1 → gPl f k = true ∧ gMx f k = true := fun k e => ⟨by unfold gPl; simp [e], by unfold gMx; simp [e]⟩
  have hpl2 : ∀ k, (f (1 + k)).toInt = 2 → gPl f k = true := fun k e => by unfold gPl; simp [e]
  intro t ht
  have hp := frq_pos (hR.1 t ht).1
  refine Rat.le_antisymm ?_ ?_
  · obtain ⟨db, hdb⟩ : ∃ db : Nat → Int32, db = fun k => if k < (f 0).toInt.toNat ∧ (f (1 + k)).toInt = 2 then Int32.ofInt ((bst f s k % 3 : Nat) : Int) else c0 k := ⟨_, rfl⟩
    have e2 : ∀ k, k < (f 0).toInt.toNat → (f (1 + k)).toInt = 2 → (db k).toInt = (bst f s k : Int) := fun k hk e => by
      rw [hdb]
      show (if k < (f 0).toInt.toNat ∧ (f (1 + k)).toInt = 2 then Int32.ofInt ((bst f s k % 3 : Nat) : Int) else c0 k).toInt = _
      rw [if_pos ⟨hk, e⟩]
      exact i32_mod _ (by have a1 := (hb k hk (hpl2 k e)).1; have a2 := g_wys hG (k := k) hk; omega)
    have eo : OTH f 2 c0 db := fun k hk e => by
      rw [hdb]
      exact if_neg (fun z => e z.2)
    have hcr : CR db := fun k => by
      by_cases q : k < (f 0).toInt.toNat ∧ (f (1 + k)).toInt = 2
      · have a0 := e2 k q.1 q.2
        have a1 := (hb k q.1 (hpl2 k q.2)).1; have a2 := g_wys hG (k := k) q.1; omega
      · rw [hdb]
        show 0 ≤ (if k < (f 0).toInt.toNat ∧ (f (1 + k)).toInt = 2 then Int32.ofInt ((bst f s k % 3 : Nat) : Int) else c0 k).toInt ∧ (if k < (f 0).toInt.toNat ∧ (f (1 + k)).toInt = 2 then Int32.ofInt ((bst f s k % 3 : Nat) : Int) else c0 k).toInt ≤ 2
        rw [if_neg q]; exact hc0 k
    have hl2 : LGd f 2 db := fun k hk e => by
      have a1 := hb k hk (hpl2 k e)
      have a2 := e2 k hk e
      have a3 := a1.1
      unfold wys at a3
      exact ⟨by omega, fun z => by rcases a1.2 with q | q <;> omega⟩
    obtain ⟨v, hv⟩ := VAL_ex hG db
    have hev := vof_eq hG (d := db) (c := bst f s) (fun k hk hp => by
      have hp2 : (f (1 + k)).toInt = 1 ∨ (f (1 + k)).toInt = 2 := by unfold gPl at hp; simpa using hp
      rcases hp2 with e | e
      · rw [eo k hk (by omega), hs k hk e, hag k hk (hpl1 k e).2]
      · exact e2 k hk e) hb hv t ht
    have := hR.2.1 db v hcr hl2 eo (by have := (NUM_in hcr hl2).2; omega) hv t ht
    rw [hev] at this
    exact this
  · obtain ⟨c, v, hcr, hl2, ho, hv, e⟩ := hR.2.2 t ht
    have hl1 := LGd_oth h1 ho (by omega)
    have hev := vof_eq hG (g_leg2 hcr) (g_leg hcr hl1 hl2) hv t ht
    rw [e, hev]
    refine Rat.mul_le_mul_of_nonneg_left (hmin _ (g_leg hcr hl1 hl2) (fun k hk hp => ?_) t ht) (Rat.le_of_lt hp)
    have hk1 : (f (1 + k)).toInt = 1 := by unfold gMx at hp; simpa using hp
    have a1 := hs k hk hk1
    unfold cN
    rw [ho k hk (by omega)]
    omega
/-- more, by the replies' fractions -/
def MORE (ru rl : Nat → Int64) (a b : Nat) : Prop := (ru b * rl a).toInt < (ru a * rl b).toInt
theorem IMP_lt (hG : GS f) {c0 : Nat → Int32} {s t : Nat → Nat} {ru rl : Nat → Int64} (hc0 : CR c0) (h1 : LGd f 1 c0) (hs : ∀ k, k < (f 0).toInt.toNat → (f (1 + k)).toInt = 1 → (c0 k).toInt = (s k : Int)) (hSL : SL f s) (hTL : SL f t) (ht3 : ∀ k, t k < 3) (hR : RPL f c0 (TOT f 2 (f 0).toInt.toNat) ru rl) (ht : ∀ k, k < (f 0).toInt.toNat → (f (1 + k)).toInt = 1 → t k = s k ∨ MORE ru rl (wtg f k (t k)) (wtg f k (s k))) (hsome : ∃ k, k < (f 0).toInt.toNat ∧ (f (1 + k)).toInt = 1 ∧ MORE ru rl (wtg f k (t k)) (wtg f k (s k))) : MU f t < MU f s := by
  have h0 := hG.r.1
  have hq := RPL_bst hG hc0 h1 hs hSL hR
  obtain ⟨hb, hag, hmin, hb2, hb3⟩ := bst_spec hG hSL
  obtain ⟨hd, hdg, _⟩ := bst_spec hG hTL
  have hmx : ∀ k, gMx f k = true → (f (1 + k)).toInt = 1 := fun k h => by unfold gMx at h; simpa using h
  have hM : ∀ a b, a < (f 0).toInt.toNat → b < (f 0).toInt.toNat → MORE ru rl a b → vof f (bst f s) b < vof f (bst f s) a := fun a b ha hb' h => by
    have h2 := FRB_lt (hR.1 b hb') (hR.1 a ha) h
    rw [hq a ha, hq b hb'] at h2
    have p1 := frq_pos (hR.1 a ha).1
    have p2 := frq_pos (hR.1 b hb').1
    refine Rat.not_le.mp fun z => ?_
    have := Rat.mul_le_mul_of_nonneg_left z (Rat.le_of_lt (Rat.mul_pos p1 p2))
    grind
  have hto : ∀ u, SL f u → ∀ k, k < (f 0).toInt.toNat → gMx f k = true → wtg f k (u k) < (f 0).toInt.toNat := fun u hu k hk hp => (g_N hG).2.1 k hk (u k) (gMx_pl hp) (hu k hk hp)
  refine MU_lt hG ht3 ?_
  unfold LV
  refine pz_step (g_N hG) (fun k _ h => by unfold gEn; simp [hmx k h]) (fun k _ h => ?_) (vof f) (vof_V hG) hb hag hd hdg hb2 hb3 (fun k hk hp => ?_) ?_
  · have hp2 : (f (1 + k)).toInt = 1 ∨ (f (1 + k)).toInt = 2 := by unfold gPl at h; simpa using h
    unfold gEn
    have : ¬ (f (1 + k)).toInt = 0 := by omega
    simp [this]
  · rcases ht k hk (hmx k hp) with q | q
    · exact Or.inl q
    · exact Or.inr (hM _ _ (hto t hTL k hk hp) (hto s hSL k hk hp) q)
  · obtain ⟨k, hk, e, q⟩ := hsome
    have hp : gMx f k = true := by unfold gMx; simp [e]
    exact ⟨k, hk, hp, hM _ _ (hto t hTL k hk hp) (hto s hSL k hk hp) q⟩
end RP
