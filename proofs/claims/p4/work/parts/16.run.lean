/-! a run of letters and digits, as both readers go through it -/
theorem bg_cl {f : Nat → Int32} {z : Int} {k : Nat} {v : Int} (hf : ∀ j : Nat, 0 ≤ (f j).toInt ∧ (f j).toInt ≤ 255) (e : v = (f k).toInt) (h : (k : Int) < z) : bg f z k = v := by
  rw [bg_in h, e]; have := hf k; omega
def RNI (g : Nat → Int) (j x : Nat) (L D V : Int) : Prop := j ≤ x ∧ (∀ k : Nat, j ≤ k → k < x → ltr (g k) ∨ dgt (g k)) ∧ 0 ≤ L ∧ 0 ≤ D ∧ L + D = (x : Int) - j ∧ (D = 0 → ALt g j x) ∧ (D ≠ 0 → ¬ ALt g j x) ∧ (L = 0 → ADg g j x) ∧ (L ≠ 0 → ¬ ADg g j x) ∧ (D = 0 → x - j ≤ 6 → V = pk g j (x - j)) ∧ (L = 0 → x - j ≤ 2 → V = nmb g j (x - j))
theorem RNI.zero {g : Nat → Int} {j x : Nat} {L D V : Int} (hx : x = j) (hL : L = 0) (hD : D = 0) (hV : V = 0) : RNI g j x L D V := by
  subst hx; subst hL; subst hD; subst hV
  refine ⟨Nat.le_refl _, fun k h1 h2 => by omega, by omega, by omega, by omega, fun _ k h1 h2 => by omega, fun h => absurd rfl h, fun _ k h1 h2 => by omega, fun h => absurd rfl h, fun _ _ => ?_, fun _ _ => ?_⟩
  · rw [Nat.sub_self]; rfl
  · rw [Nat.sub_self]; rfl
theorem RNI.rng {g : Nat → Int} {j x : Nat} {L D V : Int} (h : RNI g j x L D V) : j ≤ x ∧ 0 ≤ L ∧ 0 ≤ D ∧ L + D = (x : Int) - j := ⟨h.1, h.2.2.1, h.2.2.2.1, h.2.2.2.2.1⟩
theorem RNI.bd {g : Nat → Int} {j x : Nat} {L D V : Int} (h : RNI g j x L D V) (hD : D = 0) (hx : x - j ≤ 5) : 0 ≤ V ∧ V ≤ 14348906 := by
  have e := h.2.2.2.2.2.2.2.2.2.1 hD (by omega)
  have a := h.2.2.2.2.2.1 hD
  have hl : ∀ k : Nat, k < x - j → ltr (g (j + k)) := fun k hk => a (j + k) (by omega) (by omega)
  have h0 := pk_nn hl
  have h1 := pk_lt7 hl
  have h2 : (27 : Int) ^ (x - j) ≤ 14348907 := by
    rcases (show x - j = 0 ∨ x - j = 1 ∨ x - j = 2 ∨ x - j = 3 ∨ x - j = 4 ∨ x - j = 5 by omega) with q | q | q | q | q | q <;> rw [q] <;> decide
  omega
theorem RNI.bd2 {g : Nat → Int} {j x : Nat} {L D V : Int} (h : RNI g j x L D V) (hL : L = 0) (hx : x - j ≤ 1) : 0 ≤ V ∧ V ≤ 9 := by
  have e := h.2.2.2.2.2.2.2.2.2.2 hL (by omega)
  have a := h.2.2.2.2.2.2.2.1 hL
  rcases (show x - j = 0 ∨ x - j = 1 by omega) with q | q
  · rw [q] at e
    have e' : V = 0 := e
    omega
  · rw [q] at e
    have e' : V = 0 * 10 + (g (j + 0) - 48) := e
    have b := a (j + 0) (by omega) (by omega)
    unfold dgt at b; omega
theorem RNI.letter {g : Nat → Int} {j x y : Nat} {L D V L' V' : Int} (h : RNI g j x L D V) (hy : y = x + 1) (hc : ltr (g x)) (hL : L' = L + 1) (hV : D = 0 → x - j ≤ 5 → V' = V * 27 + (g x - 96)) : RNI g j y L' D V' := by
  obtain ⟨h1, h2, h3, h4, h5, h6, h7, h8, h9, h10, h11⟩ := h
  subst hy; subst hL
  refine ⟨by omega, fun k k1 k2 => ?_, by omega, h4, by omega, fun q k k1 k2 => ?_, fun q r => h7 q (fun k k1 k2 => r k k1 (by omega)), fun q => by omega, fun _ r => ?_, fun q w => ?_, fun q => by omega⟩
  · rcases Nat.lt_or_ge k x with z | z
    · exact h2 k k1 z
    · have : k = x := by omega
      subst this; exact Or.inl hc
  · rcases Nat.lt_or_ge k x with z | z
    · exact h6 q k k1 z
    · have : k = x := by omega
      subst this; exact hc
  · have b := r x h1 (by omega)
    unfold ltr at hc; unfold dgt at b; omega
  · have e := h10 q (by omega)
    have n : x + 1 - j = (x - j) + 1 := by omega
    have n2 : j + (x - j) = x := by omega
    rw [n, pk_succ, n2, ← e]
    exact hV q (by omega)
theorem RNI.digit {g : Nat → Int} {j x y : Nat} {L D V D' V' : Int} (h : RNI g j x L D V) (hy : y = x + 1) (hc : dgt (g x)) (hD : D' = D + 1) (hV : L = 0 → x - j ≤ 1 → V' = V * 10 + (g x - 48)) : RNI g j y L D' V' := by
  obtain ⟨h1, h2, h3, h4, h5, h6, h7, h8, h9, h10, h11⟩ := h
  subst hy; subst hD
  refine ⟨by omega, fun k k1 k2 => ?_, h3, by omega, by omega, fun q => by omega, fun _ r => ?_, fun q k k1 k2 => ?_, fun q r => h9 q (fun k k1 k2 => r k k1 (by omega)), fun q => by omega, fun q w => ?_⟩
  · rcases Nat.lt_or_ge k x with z | z
    · exact h2 k k1 z
    · have : k = x := by omega
      subst this; exact Or.inr hc
  · have b := r x h1 (by omega)
    unfold ltr at b; unfold dgt at hc; omega
  · rcases Nat.lt_or_ge k x with z | z
    · exact h8 q k k1 z
    · have : k = x := by omega
      subst this; exact hc
  · have e := h11 q (by omega)
    have n : x + 1 - j = (x - j) + 1 := by omega
    have n2 : j + (x - j) = x := by omega
    rw [n, nmb_succ, n2, ← e]
    exact hV q (by omega)
/-- what a run tells -/
def RUT (g : Nat → Int) (j : Nat) (t : Int) (e : Nat) (v : Int) : Prop := RUn g j e ∧ ((ALt g j e ∧ e - j ≤ 6 ∧ t = 1 ∧ v = pk g j (e - j)) ∨ (ADg g j e ∧ e - j ≤ 2 ∧ t = 2 ∧ v = nmb g j (e - j)) ∨ (¬ (ALt g j e ∧ e - j ≤ 6) ∧ ¬ (ADg g j e ∧ e - j ≤ 2) ∧ t = 4))
theorem RNI.word {g : Nat → Int} {j x : Nat} {L D V t : Int} (h : RNI g j x L D V) (hs : ¬ (ltr (g x) ∨ dgt (g x))) (hD : D = 0) (hL : L ≤ 6) (ht : t = 1) : RUT g j t x V := by
  obtain ⟨h1, h2, h3, h4, h5, h6, h7, h8, h9, h10, h11⟩ := h
  exact ⟨⟨h1, h2, hs⟩, Or.inl ⟨h6 hD, by omega, ht, h10 hD (by omega)⟩⟩
theorem RNI.number {g : Nat → Int} {j x : Nat} {L D V t : Int} (h : RNI g j x L D V) (hs : ¬ (ltr (g x) ∨ dgt (g x))) (hL : L = 0) (hD : D ≤ 2) (ht : t = 2) : RUT g j t x V := by
  obtain ⟨h1, h2, h3, h4, h5, h6, h7, h8, h9, h10, h11⟩ := h
  exact ⟨⟨h1, h2, hs⟩, Or.inr (Or.inl ⟨h8 hL, by omega, ht, h11 hL (by omega)⟩)⟩
theorem RNI.wrong {g : Nat → Int} {j x : Nat} {L D V t : Int} (h : RNI g j x L D V) (hs : ¬ (ltr (g x) ∨ dgt (g x))) (n1 : ¬ (D = 0 ∧ L ≤ 6)) (n2 : ¬ (L = 0 ∧ D ≤ 2)) (ht : t = 4) : RUT g j t x V := by
  obtain ⟨h1, h2, h3, h4, h5, h6, h7, h8, h9, h10, h11⟩ := h
  refine ⟨⟨h1, h2, hs⟩, Or.inr (Or.inr ⟨fun q => ?_, fun q => ?_, ht⟩)⟩
  · by_cases d : D = 0
    · exact n1 ⟨d, by omega⟩
    · exact h7 d q.1
  · by_cases d : L = 0
    · exact n2 ⟨d, by omega⟩
    · exact h9 d q.1
theorem tk_none {g : Nat → Int} {i j e : Nat} {t v : Int} (s : SKp g i j) (h : g j = -1) (ht : t = 0) (he : e = j) : TK g i t j e v := ⟨s, Or.inl ⟨h, ht, he⟩⟩
theorem tk_semi {g : Nat → Int} {i j e : Nat} {t v : Int} (s : SKp g i j) (h : g j = 59) (ht : t = 3) (he : e = j + 1) : TK g i t j e v := ⟨s, Or.inr (Or.inl ⟨h, ht, he⟩)⟩
theorem tk_wrong {g : Nat → Int} {i j e : Nat} {t v : Int} (s : SKp g i j) (h1 : g j ≠ -1) (h2 : g j ≠ 59) (h3 : ¬ ltr (g j)) (h4 : ¬ dgt (g j)) (ht : t = 4) : TK g i t j e v := ⟨s, Or.inr (Or.inr (Or.inl ⟨h1, h2, h3, h4, ht⟩))⟩
theorem tk_run {g : Nat → Int} {i j e : Nat} {t v : Int} (s : SKp g i j) (h : ltr (g j) ∨ dgt (g j)) (r : RUT g j t e v) : TK g i t j e v := by
  refine ⟨s, Or.inr (Or.inr (Or.inr ⟨h, e, r.1, ?_⟩))⟩
  rcases r.2 with ⟨a, b, c, d⟩ | ⟨a, b, c, d⟩ | ⟨a, b, c⟩
  · exact Or.inl ⟨a, b, c, rfl, d⟩
  · exact Or.inr (Or.inl ⟨a, b, c, rfl, d⟩)
  · exact Or.inr (Or.inr ⟨a, b, c⟩)
/-- spaces are passed over -/
def SKI (g : Nat → Int) (i x : Nat) : Prop := i ≤ x ∧ ∀ k : Nat, i ≤ k → k < x → g k = 32
theorem SKI.zero {g : Nat → Int} {i x : Nat} (h : x = i) : SKI g i x := by
  subst h; exact ⟨Nat.le_refl _, fun k h1 h2 => by omega⟩
theorem SKI.on {g : Nat → Int} {i x y : Nat} (h : SKI g i x) (hc : g x = 32) (hy : y = x + 1) : SKI g i y := by
  subst hy
  refine ⟨by have := h.1; omega, fun k h1 h2 => ?_⟩
  rcases Nat.lt_or_ge k x with z | z
  · exact h.2 k h1 z
  · have : k = x := by omega
    subst this; exact hc
theorem SKI.fin {g : Nat → Int} {i x : Nat} (h : SKI g i x) (hc : g x ≠ 32) : SKp g i x := ⟨h.1, h.2, hc⟩
theorem tv27 {V m b t : Int32} (hm : m = V * 27) (ht : t = m + b) (h0 : 0 ≤ V.toInt) (h1 : V.toInt ≤ 14348906) (b0 : -100 ≤ b.toInt) (b1 : b.toInt ≤ 300) : t.toInt = V.toInt * 27 + b.toInt := by
  have e : (27 : Int32).toInt = 27 := by decide
  have e1 : (V * 27).toInt = V.toInt * 27 := by
    rw [Int32.toInt_mul, e]
    exact tr_bmod (by omega) (by omega)
  rw [ht, hm, Int32.toInt_add, e1]
  exact tr_bmod (by omega) (by omega)
theorem tv10 {V m b t : Int32} (hm : m = V * 10) (ht : t = m + b) (h0 : 0 ≤ V.toInt) (h1 : V.toInt ≤ 14348906) (b0 : -100 ≤ b.toInt) (b1 : b.toInt ≤ 300) : t.toInt = V.toInt * 10 + b.toInt := by
  have e : (10 : Int32).toInt = 10 := by decide
  have e1 : (V * 10).toInt = V.toInt * 10 := by
    rw [Int32.toInt_mul, e]
    exact tr_bmod (by omega) (by omega)
  rw [ht, hm, Int32.toInt_add, e1]
  exact tr_bmod (by omega) (by omega)
