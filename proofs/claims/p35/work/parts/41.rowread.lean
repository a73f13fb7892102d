theorem tr_addX {x y : Int32} {a b c d : Int} (hx : a ≤ x.toInt ∧ x.toInt ≤ b) (hy : c ≤ y.toInt ∧ y.toInt ≤ d) (h1 : -2147483648 ≤ a + c) (h2 : b + d ≤ 2147483647) : (x + y).toInt = x.toInt + y.toInt := by
  rw [Int32.toInt_add]
  exact tr_bmod (by omega) (by omega)
theorem tr_subX {x y : Int32} {a b c d : Int} (hx : a ≤ x.toInt ∧ x.toInt ≤ b) (hy : c ≤ y.toInt ∧ y.toInt ≤ d) (h1 : -2147483648 ≤ a - d) (h2 : b - c ≤ 2147483647) : (x - y).toInt = x.toInt - y.toInt := by
  rw [Int32.toInt_sub]
  exact tr_bmod (by omega) (by omega)
theorem tr_mulX {x y : Int32} {a b c d : Int} (hx : a ≤ x.toInt ∧ x.toInt ≤ b) (hy : c ≤ y.toInt ∧ y.toInt ≤ d) (h1 : 0 ≤ a ∧ 0 ≤ c) (h2 : b * d ≤ 2147483647) : (x * y).toInt = x.toInt * y.toInt := by
  have m1 : x.toInt * y.toInt ≤ b * d := Int.mul_le_mul hx.2 hy.2 (by omega) (by omega)
  have m0 : 0 ≤ x.toInt * y.toInt := Int.mul_nonneg (by omega) (by omega)
  rw [Int32.toInt_mul]
  exact tr_bmod (by omega) (by omega)
theorem gp_way {f : Nat → Int32} (h : GP f) {a b c K V : Nat} {t w x : Int32} (ha : a = 37 + 3 * K + V) (hb : b = 73 + 3 * K + V) (hc : c = 25 + K) (hK : K < 12) (hk : ¬ (f (1 + K)).toInt = 0) (hV : (f (25 + K)).toInt = (V : Int)) (hV3 : V < 3) (ht : 0 ≤ t.toInt ∧ t.toInt < (f 0).toInt) (hw : 1 ≤ w.toInt ∧ w.toInt ≤ 3) (h4 : (f (1 + K)).toInt = 3 → gw f K V + w.toInt ≤ 4) (hx : x.toInt = (V : Int) + 1) : GP (upd (upd (upd f a t) b w) c x) := by
  subst ha hb hc
  obtain ⟨g, hg⟩ : ∃ g, g = upd (upd (upd f (37 + 3 * K + V) t) (73 + 3 * K + V) w) (25 + K) x := ⟨_, rfl⟩
  rw [← hg]
  obtain ⟨hR, a1, a2, a3, a4, a5, a6, a7, a8⟩ := h
  have o : ∀ j : Nat, j ≠ 37 + 3 * K + V → j ≠ 73 + 3 * K + V → j ≠ 25 + K → g j = f j := fun j h1 h2 h3 => by rw [hg, upd_ne _ _ h3, upd_ne _ _ h2, upd_ne _ _ h1]
  have et : g (37 + 3 * K + V) = t := by rw [hg, upd_ne _ _ (by omega), upd_ne _ _ (by omega), upd_at]
  have ew : g (73 + 3 * K + V) = w := by rw [hg, upd_ne _ _ (by omega), upd_at]
  have ex : g (25 + K) = x := by rw [hg, upd_at]
  have n12 := hR.1
  have e0 : g 0 = f 0 := o _ (by omega) (by omega) (by omega)
  have ek : ∀ j : Nat, j < 12 → g (1 + j) = f (1 + j) := fun j q => o _ (by omega) (by omega) (by omega)
  have cc : ∀ d : Int, gc g d (f 0).toInt.toNat = gc f d (f 0).toInt.toNat := fun d => gc_cong _ (fun j hj => ek j (by omega))
  have hKn : (K : Int) < (f 0).toInt := by
    by_cases q : (f 0).toInt ≤ K
    · exact absurd (a1 K hK q).1 hk
    · omega
  have gwo : ∀ j n : Nat, j < 12 → j ≠ K → n ≤ 3 → gw g j n = gw f j n := fun j n q e hn => gw_cong _ (fun i hi => o _ (by omega) (by omega) (by omega))
  refine ⟨⟨by rw [e0]; exact hR.1, fun j q => ⟨by rw [ek j q]; exact (hR.2.1 j q).1, by rw [o _ (by omega) (by omega) (by omega)]; exact (hR.2.1 j q).2.1, ?_, by rw [o _ (by omega) (by omega) (by omega)]; exact (hR.2.1 j q).2.2.2⟩, fun j q => ⟨?_, ?_⟩⟩, fun j q hq => ⟨by rw [ek j q]; rw [e0] at hq; exact (a1 j q hq).1, ?_⟩, fun j q hq => ?_, fun j i q hi => ?_, fun j q hq => ?_, fun j q hq => ?_, by rw [e0, cc]; exact a6, by rw [e0, cc]; exact a7, by rw [e0, cc]; exact a8⟩
  · by_cases e : j = K
    · subst e; rw [ex]; omega
    · rw [o _ (by omega) (by omega) (by omega)]; exact (hR.2.1 j q).2.2.1
  · by_cases e : 37 + j = 37 + 3 * K + V
    · rw [e, et]; omega
    · rw [o _ e (by omega) (by omega)]; exact (hR.2.2 j q).1
  · by_cases e : 73 + j = 73 + 3 * K + V
    · rw [e, ew]; omega
    · rw [o _ (by omega) e (by omega)]; exact (hR.2.2 j q).2
  · rw [e0] at hq
    rw [o _ (by omega) (by omega) (by omega)]; exact (a1 j q hq).2
  · rw [ek j q] at hq
    by_cases e : j = K
    · subst e; exact absurd hq hk
    · rw [o _ (by omega) (by omega) (by omega)]; exact a2 j q hq
  · rw [e0]
    by_cases e : j = K
    · subst e
      rw [ex] at hi
      by_cases e2 : i = V
      · subst e2; rw [et, ew]; omega
      · rw [o _ (by omega) (by omega) (by omega), o _ (by omega) (by omega) (by omega)]; exact a3 j i q (by omega)
    · rw [o (25 + j) (by omega) (by omega) (by omega)] at hi
      have := (hR.2.1 j q).2.2.1
      rw [o _ (by omega) (by omega) (by omega), o _ (by omega) (by omega) (by omega)]; exact a3 j i q hi
  · rw [ek j q] at hq
    by_cases e : j = K
    · subst e
      rw [ex, hx, show ((V : Int) + 1).toNat = V + 1 by omega]
      show gw g j V + (g (73 + 3 * j + V)).toInt ≤ 4
      rw [ew, gw_cong (f := f) V (fun i hi => o _ (by omega) (by omega) (by omega))]
      exact h4 hq
    · have := (hR.2.1 j q).2.2.1
      rw [o (25 + j) (by omega) (by omega) (by omega), gwo j _ q e (by omega)]; exact a4 j q hq
  · rw [ek j q] at hq
    rw [o (109 + j) (by omega) (by omega) (by omega)]
    by_cases e : j = K
    · subst e; rw [ex]; have := a5 j q hq; omega
    · rw [o (25 + j) (by omega) (by omega) (by omega)]; exact a5 j q hq
theorem gp_node {f g : Nat → Int32} (h : GP f) {n : Nat} (hn : (f 0).toInt = (n : Int)) (h0 : (g 0).toInt = (n : Int) + 1) (hk : ∀ k : Nat, k < 12 → k ≠ n → g (1 + k) = f (1 + k)) (hkn : 0 ≤ (g (1 + n)).toInt ∧ (g (1 + n)).toInt ≤ 3) (hw : ∀ k : Nat, k < 12 → g (25 + k) = f (25 + k)) (ht : ∀ j : Nat, j < 36 → g (37 + j) = f (37 + j)) (hh : ∀ j : Nat, j < 36 → g (73 + j) = f (73 + j)) (hp : ∀ k : Nat, k < 12 → 0 ≤ (g (13 + k)).toInt ∧ (g (13 + k)).toInt ≤ 9) (hd : ∀ k : Nat, k < 12 → k ≠ n → g (109 + k) = f (109 + k)) (hdn : (g (109 + n)).toInt = -1)
    (c0 : (g (1 + n)).toInt = 0 → ¬ gc f 0 n = 4) (c1 : ¬ (g (1 + n)).toInt = 0 → ¬ (n : Int) - gc f 0 n = 8) (c3 : (g (1 + n)).toInt = 3 → ¬ gc f 3 n = 5) : n < 12 ∧ GP g := by
  obtain ⟨hR, a1, a2, a3, a4, a5, a6, a7, a8⟩ := h
  have en : (f 0).toInt.toNat = n := by omega
  rw [en] at a6 a7 a8
  have n12 : n < 12 := by
    by_cases q : (g (1 + n)).toInt = 0
    · have := c0 q; omega
    · have := c1 q; omega
  have en1 : (g 0).toInt.toNat = n + 1 := by omega
  have w3 : ∀ k : Nat, k < 12 → (f (25 + k)).toInt.toNat ≤ 3 := fun k q => by have := (hR.2.1 k q).2.2.1; omega
  have cc : ∀ d : Int, gc g d (n + 1) = gc f d n + (if (g (1 + n)).toInt = d then 1 else 0) := fun d => by
    show gc g d n + _ = _
    rw [gc_cong (f := f) n (fun i hi => hk i (by omega) (by omega))]
  have wn : (f (25 + n)).toInt = 0 := (a1 n n12 (by omega)).2
  refine ⟨n12, ⟨by omega, fun k q => ⟨?_, hp k q, by rw [hw k q]; exact (hR.2.1 k q).2.2.1, ?_⟩, fun j q => ⟨by rw [ht j q]; exact (hR.2.2 j q).1, by rw [hh j q]; exact (hR.2.2 j q).2⟩⟩, fun k q hq => ?_, fun k q hq => ?_, fun k i q hi => ?_, fun k q hq => ?_, fun k q hq => ?_, ?_, ?_, ?_⟩
  · by_cases e : k = n
    · subst e; exact hkn
    · rw [hk k q e]; exact (hR.2.1 k q).1
  · by_cases e : k = n
    · subst e; omega
    · rw [hd k q e]; exact (hR.2.1 k q).2.2.2
  · rw [hw k q, hk k q (by omega)]; exact a1 k q (by omega)
  · by_cases e : k = n
    · subst e; rw [hw k q]; exact wn
    · rw [hk k q e] at hq; rw [hw k q]; exact a2 k q hq
  · rw [hw k q] at hi
    have := w3 k q
    have e1 : g (37 + 3 * k + i) = f (37 + 3 * k + i) := by rw [show 37 + 3 * k + i = 37 + (3 * k + i) by omega]; exact ht _ (by omega)
    have e2 : g (73 + 3 * k + i) = f (73 + 3 * k + i) := by rw [show 73 + 3 * k + i = 73 + (3 * k + i) by omega]; exact hh _ (by omega)
    rw [e1, e2]
    have := a3 k i q hi
    omega
  · by_cases e : k = n
    · subst e; rw [hw k q, wn]; simp [gw]
    · rw [hk k q e] at hq
      rw [hw k q, gw_cong (f := f) _ (fun i hi => by rw [show 73 + 3 * k + i = 73 + (3 * k + i) by omega]; exact hh _ (by have := w3 k q; omega))]
      exact a4 k q hq
  · by_cases e : k = n
    · subst e; rw [hw k q, wn]; omega
    · rw [hk k q e] at hq; rw [hw k q, hd k q e]; exact a5 k q hq
  · rw [en1, cc]
    by_cases q : (g (1 + n)).toInt = 0
    · rw [if_pos q]; have := c0 q; omega
    · rw [if_neg q]; omega
  · rw [en1, cc]
    by_cases q : (g (1 + n)).toInt = 0
    · rw [if_pos q]; omega
    · rw [if_neg q]; have := c1 q; omega
  · rw [en1, cc]
    by_cases q : (g (1 + n)).toInt = 3
    · rw [if_pos q]; have := c3 q; omega
    · rw [if_neg q]; omega
