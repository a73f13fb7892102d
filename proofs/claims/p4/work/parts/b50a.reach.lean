def ONi (f c : Nat → Int32) (k m j : Nat) : Prop := ∃ i : Nat, i < m ∧ ((f (1 + k)).toInt = 3 ∨ (c k).toInt = (i : Int)) ∧ (f (37 + 3 * k + i)).toInt = (j : Int)
theorem on_zero {f c : Nat → Int32} {k : Nat} : ∀ j : Nat, bt 0 j ↔ ONi f c k 0 j := fun j => ⟨fun h => absurd h (bt_zero j), fun ⟨i, h, _⟩ => absurd h (Nat.not_lt_zero i)⟩
theorem on_add {f c : Nat → Int32} {k m m' : Nat} {x y t b : Int32} (h : ∀ j : Nat, bt x j ↔ ONi f c k m j) (hx : 0 ≤ x.toInt ∧ x.toInt ≤ 4095) (ht : 0 ≤ t.toInt ∧ t.toInt ≤ 11) (hb : b = (1 : Int32) <<< (t &&& 31)) (hy : y = x ||| b) (hq : (f (1 + k)).toInt = 3 ∨ (c k).toInt = (m : Int)) (hf : t = f (37 + 3 * k + m)) (hm : m' = m + 1) : ∀ j : Nat, bt y j ↔ ONi f c k m' j := fun j => by
  subst hy hm hb
  rw [bt_or hx (tr_shl12 ht), h j, bt_shl ht]
  constructor
  · rintro (⟨i, h1, h2⟩ | h1)
    · exact ⟨i, by omega, h2⟩
    · exact ⟨m, by omega, hq, by rw [← hf]; omega⟩
  · rintro ⟨i, h1, h2, h3⟩
    by_cases e : i = m
    · subst e; right; rw [← hf] at h3; omega
    · left; exact ⟨i, by omega, h2, h3⟩
theorem on_skip {f c : Nat → Int32} {k m m' : Nat} {x : Int32} (h : ∀ j : Nat, bt x j ↔ ONi f c k m j) (hq : ¬ ((f (1 + k)).toInt = 3 ∨ (c k).toInt = (m : Int))) (hm : m' = m + 1) : ∀ j : Nat, bt x j ↔ ONi f c k m' j := fun j => by
  subst hm
  rw [h j]
  constructor
  · rintro ⟨i, h1, h2⟩; exact ⟨i, by omega, h2⟩
  · rintro ⟨i, h1, h2, h3⟩
    by_cases e : i = m
    · subst e; exact absurd h2 hq
    · exact ⟨i, by omega, h2, h3⟩
theorem on_done {f c : Nat → Int32} {k m : Nat} {x : Int32} (h : ∀ j : Nat, bt x j ↔ ONi f c k m j) (hm : (f (25 + k)).toInt = (m : Int)) : ∀ j : Nat, bt x j ↔ ON f c k j := fun j => by
  rw [h j]
  constructor
  · rintro ⟨i, h1, h2⟩; exact ⟨i, by omega, h2⟩
  · rintro ⟨i, h1, h2⟩; exact ⟨i, by omega, h2⟩
/-- ends among the first m -/
theorem en_zero {f : Nat → Int32} : ∀ j : Nat, bt 0 j ↔ (j < 0 ∧ (f (1 + j)).toInt = 0) := fun j => ⟨fun h => absurd h (bt_zero j), fun h => absurd h.1 (Nat.not_lt_zero j)⟩
theorem en_add {f : Nat → Int32} {m m' : Nat} {x y t b : Int32} (h : ∀ j : Nat, bt x j ↔ (j < m ∧ (f (1 + j)).toInt = 0)) (hx : 0 ≤ x.toInt ∧ x.toInt ≤ 4095) (ht : 0 ≤ t.toInt ∧ t.toInt ≤ 11) (hb : b = (1 : Int32) <<< (t &&& 31)) (hy : y = x ||| b) (htm : t.toInt = (m : Int)) (hq : (f (1 + m)).toInt = 0) (hm : m' = m + 1) : ∀ j : Nat, bt y j ↔ (j < m' ∧ (f (1 + j)).toInt = 0) := fun j => by
  subst hy hm hb
  rw [bt_or hx (tr_shl12 ht), h j, bt_shl ht]
  constructor
  · rintro (⟨h1, h2⟩ | h1)
    · exact ⟨by omega, h2⟩
    · obtain rfl : j = m := by omega
      exact ⟨by omega, hq⟩
  · rintro ⟨h1, h2⟩
    by_cases e : j = m
    · right; omega
    · left; exact ⟨by omega, h2⟩
theorem tr_or0 {x y : Int32} (h : y = x ||| 0) : y = x := by
  rw [h]
  apply Int32.toBitVec_inj.mp
  show x.toBitVec ||| 0#32 = x.toBitVec
  simp
theorem en_skip {f : Nat → Int32} {m m' : Nat} {x y : Int32} (h : ∀ j : Nat, bt x j ↔ (j < m ∧ (f (1 + j)).toInt = 0)) (hy : y = x ||| 0) (hq : ¬ (f (1 + m)).toInt = 0) (hm : m' = m + 1) : ∀ j : Nat, bt y j ↔ (j < m' ∧ (f (1 + j)).toInt = 0) := fun j => by
  rw [tr_or0 hy]
  subst hm
  rw [h j]
  constructor
  · rintro ⟨h1, h2⟩; exact ⟨by omega, h2⟩
  · rintro ⟨h1, h2⟩
    by_cases e : j = m
    · subst e; exact absurd h2 hq
    · exact ⟨by omega, h2⟩
/-- closed as far as the first m nodes go -/
def CLm (f c : Nat → Int32) (m : Nat) (S : Nat → Prop) : Prop := ∀ k j : Nat, k < m → ¬ (f (1 + k)).toInt = 0 → ON f c k j → S j → S k
theorem LF_self {f c : Nat → Int32} {x : Int32} : LF f c x x := ⟨fun _ h => h, fun _ h _ => h⟩
theorem LF_add {f c : Nat → Int32} {x y z t b o : Int32} {m : Nat} (h : LF f c x y) (hy : 0 ≤ y.toInt ∧ y.toInt ≤ 4095) (ht : 0 ≤ t.toInt ∧ t.toInt ≤ 11) (hb : b = (1 : Int32) <<< (t &&& 31)) (hz : z = y ||| b) (htm : t.toInt = (m : Int)) (hn : (m : Int) < (f 0).toInt) (hk : ¬ (f (1 + m)).toInt = 0) (ho : ∀ j : Nat, bt o j ↔ ON f c m j) (ho2 : 0 ≤ o.toInt ∧ o.toInt ≤ 4095) (hne : ¬ (o &&& y) = 0) : LF f c x z := by
  subst hz hb
  refine ⟨fun j q => (bt_or hy (tr_shl12 ht) j).mpr (Or.inl (h.1 j q)), fun S h1 h2 j q => ?_⟩
  rcases (bt_or hy (tr_shl12 ht) j).mp q with q | q
  · exact h.2 S h1 h2 j q
  · have e := (bt_shl ht j).mp q
    obtain rfl : j = m := by omega
    have hp : 0 ≤ (o &&& y).toInt := by rw [tr_andN ho2.1 hy.1]; exact Int.natCast_nonneg _
    obtain ⟨i, hi⟩ := (bt_ne hp).mp hne
    have hi := (bt_and ho2.1 hy.1 i).mp hi
    exact h2 j i hn hk ((ho i).mp hi.1) (h.2 S h1 h2 i hi.2)
theorem CLm_zero {f c : Nat → Int32} {S : Nat → Prop} : CLm f c 0 S := fun k _ h => absurd h (Nat.not_lt_zero k)
theorem CLm_step {f c : Nat → Int32} {S : Nat → Prop} {m m' : Nat} (h : CLm f c m S) (hS : ¬ (f (1 + m)).toInt = 0 → ∀ j : Nat, ON f c m j → S j → S m) (hm : m' = m + 1) : CLm f c m' S := fun k j q1 q2 q3 q4 => by
  by_cases e : k = m
  · subst e; exact hS q2 j q3 q4
  · exact h k j (by omega) q2 q3 q4
theorem CLm_add {f c : Nat → Int32} {w y z t b : Int32} {m m' : Nat} (h : y = w → CLm f c m (bt w)) (hwy : w.toInt ≤ y.toInt) (hy : 0 ≤ y.toInt ∧ y.toInt ≤ 4095) (ht : 0 ≤ t.toInt ∧ t.toInt ≤ 11) (hb : b = (1 : Int32) <<< (t &&& 31)) (hz : z = y ||| b) (htm : t.toInt = (m : Int)) (hm : m' = m + 1) : z = w → CLm f c m' (bt w) := fun e => by
  have l := (tr_or12 hy (tr_shl12 ht)).2
  rw [← hb, ← hz, e] at l
  have q : y = w := Int32.toInt_inj.mp (by omega)
  refine CLm_step (h q) (fun _ j _ _ => ?_) hm
  rw [← e, hz, hb]
  exact (bt_or hy (tr_shl12 ht) m).mpr (Or.inr ((bt_shl ht m).mpr (by omega)))
theorem CLm_not {f c : Nat → Int32} {w y o : Int32} {m m' : Nat} (h : y = w → CLm f c m (bt w)) (hy : 0 ≤ y.toInt ∧ y.toInt ≤ 4095) (ho : ∀ j : Nat, bt o j ↔ ON f c m j) (ho2 : 0 ≤ o.toInt ∧ o.toInt ≤ 4095) (hne : (o &&& y) = 0) (hm : m' = m + 1) : y = w → CLm f c m' (bt w) := fun e => by
  refine CLm_step (h e) (fun _ j q1 q2 => ?_) hm
  rw [← e] at q2
  have : bt (o &&& y) j := (bt_and ho2.1 hy.1 j).mpr ⟨(ho j).mpr q1, q2⟩
  rw [hne] at this
  exact absurd this (bt_zero j)
theorem CLm_end {f c : Nat → Int32} {w y : Int32} {m m' : Nat} (h : y = w → CLm f c m (bt w)) (hk : (f (1 + m)).toInt = 0) (hm : m' = m + 1) : y = w → CLm f c m' (bt w) := fun e => CLm_step (h e) (fun q => absurd hk q) hm
theorem CLm_done {f c : Nat → Int32} {w y : Int32} {m : Nat} (h : y = w → CLm f c m (bt w)) (hm : (f 0).toInt ≤ (m : Int)) : w = y → CL f c (bt y) := fun e k j q1 q2 q3 q4 => by
  subst e
  exact h rfl k j (by omega) q2 q3 q4
theorem CL_zero {f c : Nat → Int32} {y : Int32} : (0 : Int32) = y → CL f c (bt y) := fun e k j _ _ _ q => by
  subst e
  exact absurd q (bt_zero j)
