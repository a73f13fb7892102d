/-! the numbers of the rows, and the rows' good nature -/
def rwS (f c : Nat → Int32) (k : Nat) : Prop := ¬ (f (1 + k)).toInt = 0 ∧ RC f c k
def DK (f : Nat → Int32) (k : Nat) : Int := if (f (1 + k)).toInt = 3 then 20 else 5
def PD (f : Nat → Int32) : Nat → Int
  | 0 => 1
  | k + 1 => PD f k * (if (f (1 + k)).toInt = 0 then 1 else DK f k)
def pE (E : Nat → Int) : Nat → Int
  | 0 => 1
  | k + 1 => pE E k * E k
def RWI (f c w : Nat → Int32) (m N : Nat) : Prop := (∀ k, k < m → (0 ≤ (w k).toInt ↔ rwS f c k) ∧ (w k).toInt < (N : Int)) ∧ (∀ i, i < N → ∃ k, k < m ∧ (w k).toInt = (i : Int)) ∧ (∀ k j, k < m → j < m → (w k).toInt = (w j).toInt → 0 ≤ (w k).toInt → k = j) ∧ N ≤ m ∧ ∀ E : Nat → Int, (∀ k, k < m → 0 ≤ (w k).toInt → 0 ≤ E (w k).toInt.toNat ∧ E (w k).toInt.toNat ≤ DK f k) → pE E N ≤ PD f m
theorem DK_pos (f : Nat → Int32) (k : Nat) : 5 ≤ DK f k ∧ DK f k ≤ 20 := by unfold DK; split <;> omega
theorem PD_pos (f : Nat → Int32) : ∀ m, 1 ≤ PD f m
  | 0 => by show (1 : Int) ≤ 1; omega
  | m + 1 => by
    have h1 := PD_pos f m
    have h2 := DK_pos f m
    show 1 ≤ PD f m * _
    split
    · omega
    · have := Int.mul_le_mul h1 (show (1 : Int) ≤ DK f m by omega) (by omega) (by omega)
      omega
theorem pE_nonneg {E : Nat → Int} : ∀ N, (∀ i, i < N → 0 ≤ E i) → 0 ≤ pE E N
  | 0, _ => by show (0 : Int) ≤ 1; omega
  | N + 1, h => Int.mul_nonneg (pE_nonneg N (fun i hi => h i (by omega))) (h N (by omega))
theorem RWI_zero (f c w : Nat → Int32) : RWI f c w 0 0 := ⟨fun k h => absurd h (by omega), fun i h => absurd h (by omega), fun k j h => absurd h (by omega), by omega, fun E _ => by show (1 : Int) ≤ 1; omega⟩
theorem RWI_row {f c w v : Nat → Int32} {m m2 N N2 : Nat} (h : RWI f c w m N) (hv : ∀ k, k < m → v k = w k) (hn : (v m).toInt = (N : Int)) (hS : rwS f c m) (hm : m2 = m + 1) (hN : N2 = N + 1) : RWI f c v m2 N2 := by
  subst hm hN
  obtain ⟨h1, h2, h3, h4, h5⟩ := h
  refine ⟨fun k hk => ?_, fun i hi => ?_, fun k j hk hj e e0 => ?_, by omega, fun E hE => ?_⟩
  · by_cases q : k = m
    · subst q; exact ⟨⟨fun _ => hS, fun _ => by omega⟩, by omega⟩
    · rw [hv k (by omega)]; have := h1 k (by omega); exact ⟨this.1, by omega⟩
  · by_cases q : i = N
    · subst q; exact ⟨m, by omega, hn⟩
    · obtain ⟨k, hk, e⟩ := h2 i (by omega)
      exact ⟨k, by omega, by rw [hv k hk]; exact e⟩
  · by_cases q : k = m
    · by_cases q2 : j = m
      · omega
      · subst q
        rw [hv j (by omega)] at e
        have := (h1 j (by omega)).2
        omega
    · by_cases q2 : j = m
      · subst q2
        rw [hv k (by omega)] at e
        have := (h1 k (by omega)).2
        omega
      · rw [hv k (by omega)] at e e0
        rw [hv j (by omega)] at e
        exact h3 k j (by omega) (by omega) e e0
  · show pE E N * E N ≤ PD f m * _
    rw [if_neg hS.1]
    have a1 := h5 E (fun k hk e => by have := hE k (by omega) (by rw [hv k hk]; exact e); rw [hv k hk] at this; exact this)
    have a2 := hE m (by omega) (by omega)
    rw [hn, Int.toNat_natCast] at a2
    have a3 : 0 ≤ pE E N := pE_nonneg N (fun i hi => by
      obtain ⟨k, hk, e⟩ := h2 i hi
      have := hE k (by omega) (by rw [hv k hk]; omega)
      rw [hv k hk, e, Int.toNat_natCast] at this
      exact this.1)
    have a4 := PD_pos f m
    exact Int.mul_le_mul a1 a2.2 a2.1 (by omega)
theorem RWI_not {f c w v : Nat → Int32} {m m2 N : Nat} (h : RWI f c w m N) (hv : ∀ k, k < m → v k = w k) (hn : (v m).toInt = -1) (hS : ¬ rwS f c m) (hm : m2 = m + 1) : RWI f c v m2 N := by
  subst hm
  obtain ⟨h1, h2, h3, h4, h5⟩ := h
  refine ⟨fun k hk => ?_, fun i hi => ?_, fun k j hk hj e e0 => ?_, by omega, fun E hE => ?_⟩
  · by_cases q : k = m
    · subst q; exact ⟨⟨fun _ => by omega, fun z => absurd z hS⟩, by omega⟩
    · rw [hv k (by omega)]; exact h1 k (by omega)
  · obtain ⟨k, hk, e⟩ := h2 i (by omega)
    exact ⟨k, by omega, by rw [hv k hk]; exact e⟩
  · by_cases q : k = m
    · subst q; omega
    · by_cases q2 : j = m
      · subst q2; omega
      · rw [hv k (by omega)] at e e0
        rw [hv j (by omega)] at e
        exact h3 k j (by omega) (by omega) e e0
  · have a1 := h5 E (fun k hk e => by have := hE k (by omega) (by rw [hv k hk]; exact e); rw [hv k hk] at this; exact this)
    have a4 := PD_pos f m
    have a5 := DK_pos f m
    show pE E N ≤ PD f m * _
    split
    · omega
    · have : PD f m * 1 ≤ PD f m * DK f m := Int.mul_le_mul_of_nonneg_left (by omega) (by omega)
      omega
/-- chance's nodes and players' nodes, counted -/
theorem PD_count (f : Nat → Int32) : ∀ m : Nat, ∃ a b : Nat, (a : Int) = gc f 3 m ∧ (a : Int) + b = (m : Int) - gc f 0 m ∧ PD f m = 20 ^ a * 5 ^ b
  | 0 => ⟨0, 0, rfl, rfl, rfl⟩
  | m + 1 => by
    obtain ⟨a, b, h1, h2, h3⟩ := PD_count f m
    have e3 : gc f 3 (m + 1) = gc f 3 m + (if (f (1 + m)).toInt = 3 then 1 else 0) := rfl
    have e0 : gc f 0 (m + 1) = gc f 0 m + (if (f (1 + m)).toInt = 0 then 1 else 0) := rfl
    have eP : PD f (m + 1) = PD f m * (if (f (1 + m)).toInt = 0 then 1 else DK f m) := rfl
    rw [e3, e0, eP, h3]
    by_cases q0 : (f (1 + m)).toInt = 0
    · rw [if_pos q0, if_pos q0, if_neg (by omega)]
      exact ⟨a, b, by omega, by omega, by omega⟩
    · rw [if_neg q0, if_neg q0]
      unfold DK
      by_cases q3 : (f (1 + m)).toInt = 3
      · rw [if_pos q3, if_pos q3]
        exact ⟨a + 1, b, by omega, by omega, by rw [Int.pow_succ]; grind⟩
      · rw [if_neg q3, if_neg q3]
        exact ⟨a, b + 1, by omega, by omega, by rw [Int.pow_succ]; grind⟩
theorem PD_le {f : Nat → Int32} (h : GS f) : PD f (f 0).toInt.toNat ≤ 400000000 := by
  obtain ⟨a, b, h1, h2, h3⟩ := PD_count f (f 0).toInt.toNat
  have k1 := h.1.2.2.2.2.2.2.2.1
  have k2 := h.1.2.2.2.2.2.2.2.2
  have k0 := h.r.1
  rw [h3]
  have ha : a ≤ 5 := by omega
  have hb : a + b ≤ 8 := by omega
  rcases (show a = 0 ∨ a = 1 ∨ a = 2 ∨ a = 3 ∨ a = 4 ∨ a = 5 by omega) with rfl | rfl | rfl | rfl | rfl | rfl <;> rcases (show b = 0 ∨ b = 1 ∨ b = 2 ∨ b = 3 ∨ b = 4 ∨ b = 5 ∨ b = 6 ∨ b = 7 ∨ b = 8 by omega) with rfl | rfl | rfl | rfl | rfl | rfl | rfl | rfl | rfl <;> first | omega | decide
/-- what stands in the row of node k -/
def arow (f c w : Nat → Int32) (N : Nat) (a b e : Int) (u : Nat → Int) (k j : Nat) : Int :=
  if j = N then b * gsm f c k (fun t => if (w t).toInt < 0 then u t else 0) (wys f k) + e * gsm f c k (fun _ => 1) (wys f k)
  else (if (w k).toInt = (j : Int) then a * gsm f c k (fun _ => 1) (wys f k) else 0) - b * gsm f c k (fun t => if (w t).toInt = (j : Int) then 1 else 0) (wys f k)
def MAT (f c w : Nat → Int32) (N : Nat) (a b e : Int) (u : Nat → Int) (m : Nat) (A : Nat → Nat → Int) : Prop := ∀ k, k < m → 0 ≤ (w k).toInt → ∀ j, j ≤ N → A (w k).toInt.toNat j = arow f c w N a b e u k j
theorem pz_m_delta (y : Nat → Rat) (c : Rat) (i : Nat) : ∀ N, pz_m N (fun j => (if i = j then c else 0) * y j) = if i < N then c * y i else 0
  | 0 => by rw [if_neg (by omega)]; rfl
  | N + 1 => by
    show pz_m N _ + _ = _
    rw [pz_m_delta y c i N]
    dsimp only
    by_cases q : i = N
    · subst q; rw [if_neg (by omega), if_pos rfl, if_pos (by omega)]; grind
    · rw [if_neg q]
      by_cases q2 : i < N
      · rw [if_pos q2, if_pos (by omega)]; grind
      · rw [if_neg q2, if_neg (by omega)]; grind
theorem pz_m_pick (y : Nat → Rat) {r : Int} {N : Nat} (hr : r < (N : Int)) : pz_m N (fun j => (((if r = (j : Int) then 1 else 0 : Int) : Int) : Rat) * y j) = if 0 ≤ r then y r.toNat else 0 := by
  by_cases q : 0 ≤ r
  · rw [if_pos q, pz_m_congr N (v := fun j => (if r.toNat = j then (1 : Rat) else 0) * y j) (fun j _ => ?_), pz_m_delta, if_pos (by omega)]
    · grind
    · by_cases q2 : r = (j : Int)
      · rw [if_pos q2, if_pos (by omega)]; rfl
      · rw [if_neg q2, if_neg (by omega)]; rfl
  · rw [if_neg q]
    exact pz_m_zero (fun j _ => by rw [if_neg (by omega)]; show (0 : Rat) * y j = 0; grind)
section RS
variable {f c w : Nat → Int32} {k N : Nat}
theorem gsR_pick (y : Nat → Rat) : ∀ m, (∀ i, i < m → (w (wtg f k i)).toInt < (N : Int)) → pz_m N (fun j => gsR f c k (fun t => (((if (w t).toInt = (j : Int) then 1 else 0 : Int) : Int) : Rat)) m * y j) = gsR f c k (fun t => if 0 ≤ (w t).toInt then y (w t).toInt.toNat else 0) m
  | 0, _ => pz_m_zero (fun j _ => by show (0 : Rat) * y j = 0; grind)
  | m + 1, h => by
    have ih := gsR_pick y m (fun i hi => h i (by omega))
    show pz_m N (fun j => (gsR f c k _ m + _) * y j) = gsR f c k _ m + _
    rw [← ih]
    dsimp only
    by_cases q : wsel f c k m
    · rw [if_pos q, ← pz_m_pick y (h m (by omega)), pz_m_congr N (v := fun j => ((wwt f k m : Int) : Rat) * ((((if (w (wtg f k m)).toInt = (j : Int) then 1 else 0 : Int) : Int) : Rat) * y j) + gsR f c k (fun t => (((if (w t).toInt = (j : Int) then 1 else 0 : Int) : Int) : Rat)) m * y j) (fun j _ => by rw [if_pos q]; grind), pz_m_lin]
      grind
    · rw [if_neg q, pz_m_congr N (v := fun j => gsR f c k (fun t => (((if (w t).toInt = (j : Int) then 1 else 0 : Int) : Int) : Rat)) m * y j) (fun j _ => by rw [if_neg q]; grind)]
      grind
end RS
def p5 : Nat → Rat
  | 0 => 1
  | d + 1 => p5 d / 5
theorem p5_pos : ∀ d, 0 < p5 d
  | 0 => by show (0 : Rat) < 1; decide
  | d + 1 => pm_div_pos (p5_pos d) (by decide)
theorem p5_le : ∀ {a b : Nat}, a ≤ b → p5 b ≤ p5 a := by
  intro a b h
  induction b with
  | zero => rw [show a = 0 by omega]; exact Rat.le_refl
  | succ b ih =>
    by_cases e : a = b + 1
    · rw [e]; exact Rat.le_refl
    · have h1 := ih (by omega)
      have h2 := p5_pos b
      have h3 : p5 (b + 1) = p5 b / 5 := rfl
      grind
