/-! the mean of fractions; so many moves -/
theorem tr_updB {f : Nat → Int32} {k : Nat} {x : Int32} (h : ∀ j : Nat, -128 ≤ (f j).toInt ∧ (f j).toInt ≤ 127) : ∀ j : Nat, -128 ≤ (upd f k (vp_nar .byte x) j).toInt ∧ (upd f k (vp_nar .byte x) j).toInt ≤ 127 := by
  intro j
  show -128 ≤ (if j = k then vp_nar .byte x else f j).toInt ∧ (if j = k then vp_nar .byte x else f j).toInt ≤ 127
  split
  · rw [vp_nar_byte, Int8.toInt_toInt32]
    have h1 := Int8.le_toInt x.toInt8
    have h2 := Int8.toInt_le x.toInt8
    have e1 : Int8.maxValue.toInt = 127 := by decide
    have e2 : Int8.minValue.toInt = -128 := by decide
    omega
  · exact h j
def GG (a b x y : Int) : Prop := ∀ e : Int, e ∣ a → e ∣ b → e ∣ x ∧ e ∣ y
theorem GG_start {a b : Int} : GG a b a b := fun _ h1 h2 => ⟨h1, h2⟩
theorem GG_next {a b : Int} {x y z : Int64} (h : GG a b x.toInt y.toInt) (hz : z = x - x / y * y) (hy : ¬ y = 0) : GG a b y.toInt z.toInt := by
  obtain ⟨q, hq, _⟩ := tl_rem hz hy
  intro e h1 h2
  obtain ⟨a1, a2⟩ := h e h1 h2
  refine ⟨a2, ?_⟩
  have : z.toInt = x.toInt - q * y.toInt := by omega
  rw [this]
  exact Int.dvd_sub a1 (Int.dvd_mul_of_dvd_right a2)
theorem lcm_step {b l d L x : Int} (hb : 0 < b) (hl : 0 < l) (hd : 0 < d) (d1 : d ∣ b) (d2 : d ∣ l) (dg : ∀ e : Int, e ∣ b → e ∣ l → e ∣ d) (hL : 0 ≤ L) (hbL : b ∣ L) (hlL : l ∣ L) (hx : x * d = b) : x * l ∣ L := by
  obtain ⟨B, rfl⟩ := Int.eq_ofNat_of_zero_le (show 0 ≤ b by omega)
  obtain ⟨M, rfl⟩ := Int.eq_ofNat_of_zero_le (show 0 ≤ l by omega)
  obtain ⟨E, rfl⟩ := Int.eq_ofNat_of_zero_le (show 0 ≤ d by omega)
  obtain ⟨N, rfl⟩ := Int.eq_ofNat_of_zero_le hL
  have hx0 : 0 ≤ x := Int.not_lt.mp fun z => by
    have := Int.mul_le_mul_of_nonneg_right (show x ≤ -1 by omega) (show 0 ≤ (E : Int) by omega)
    omega
  obtain ⟨X, rfl⟩ := Int.eq_ofNat_of_zero_le hx0
  have e1 : E ∣ Nat.gcd B M := Nat.dvd_gcd (Int.natCast_dvd_natCast.mp d1) (Int.natCast_dvd_natCast.mp d2)
  have e2 : Nat.gcd B M ∣ E := Int.natCast_dvd_natCast.mp (dg _ (Int.natCast_dvd_natCast.mpr (Nat.gcd_dvd_left B M)) (Int.natCast_dvd_natCast.mpr (Nat.gcd_dvd_right B M)))
  have e3 : E = Nat.gcd B M := Nat.dvd_antisymm e1 e2
  have hxn : X * E = B := by exact_mod_cast hx
  have h1 := Nat.gcd_mul_lcm B M
  have hE : 0 < E := by omega
  have h2 : X * M = Nat.lcm B M := by
    refine Nat.eq_of_mul_eq_mul_left hE ?_
    rw [← e3] at h1
    rw [h1, ← hxn]
    rw [← Nat.mul_assoc, Nat.mul_comm E X]
  have h3 : Nat.lcm B M ∣ N := Nat.lcm_dvd (Int.natCast_dvd_natCast.mp hbL) (Int.natCast_dvd_natCast.mp hlL)
  rw [← h2] at h3
  have := Int.natCast_dvd_natCast.mpr h3
  rw [Int.natCast_mul] at this
  exact this
section MN
variable {f : Nat → Int32} {bu bl : Nat → Int64}
/-- fractions that a mean can be made of -/
def MLO (f : Nat → Int32) (bu bl : Nat → Int64) (k : Nat) : Prop := (∃ L : Int, 0 < L ∧ L ≤ 1000000000000 ∧ ∀ i, i < wys f k → (bl (wtg f k i)).toInt ∣ L) ∧ ∀ i, i < wys f k → 0 < (bl (wtg f k i)).toInt ∧ 0 ≤ (bu (wtg f k i)).toInt ∧ (bu (wtg f k i)).toInt ≤ 127 * (bl (wtg f k i)).toInt
def MEI (f : Nat → Int32) (bl : Nat → Int64) (k i : Nat) (a b : Int) : Prop := 0 < b ∧ 0 ≤ a ∧ a ≤ 127 * (gw f k i * b) ∧ ∀ L : Int, 0 ≤ L → (∀ j, j < wys f k → (bl (wtg f k j)).toInt ∣ L) → b ∣ L
theorem MEI_zero {k : Nat} : MEI f bl k 0 0 1 := ⟨by decide, by decide, by show (0 : Int) ≤ 127 * (0 * 1); decide, fun L _ _ => Int.one_dvd L⟩
theorem MEI_start {k : Nat} {a b : Int} (ha : a = 0) (hb : b = 1) : MEI f bl k 0 a b := by subst ha hb; exact MEI_zero
theorem MEI_le {k i : Nat} {a b : Int} (hM : MLO f bu bl k) (h : MEI f bl k i a b) : b ≤ 1000000000000 := by
  obtain ⟨⟨L, h1, h2, h3⟩, _⟩ := hM
  have := Int.le_of_dvd h1 (h.2.2.2 L (by omega) h3)
  omega
theorem gw_in (hG : GS f) {k : Nat} (hk : k < 12) (h3 : (f (1 + k)).toInt = 3) : ∀ i, i ≤ wys f k → 0 ≤ gw f k i ∧ gw f k i ≤ 4 := by
  have mono : ∀ m i : Nat, i + m ≤ wys f k → 0 ≤ gw f k i ∧ gw f k i ≤ gw f k (i + m) := by
    intro m
    induction m with
    | zero =>
      intro i hi
      refine ⟨gw_nonneg _ (fun j hj => ?_), Int.le_refl _⟩
      have := (hG.1.2.2.2.1 k j hk (by unfold wys at hi; omega)).2
      omega
    | succ m ih =>
      intro i hi
      obtain ⟨a1, a2⟩ := ih i (by omega)
      have e : gw f k (i + (m + 1)) = gw f k (i + m) + (f (73 + 3 * k + (i + m))).toInt := rfl
      have := (hG.1.2.2.2.1 k (i + m) hk (by unfold wys at hi; omega)).2
      exact ⟨a1, by omega⟩
  intro i hi
  obtain ⟨a1, a2⟩ := mono (wys f k - i) i (by omega)
  rw [show i + (wys f k - i) = wys f k by omega] at a2
  have := hG.1.2.2.2.2.1 k hk h3
  exact ⟨a1, Int.le_trans a2 this⟩
theorem gw_ge1 (hG : GS f) {k : Nat} (hk : k < 12) (h3 : (f (1 + k)).toInt = 3) : 1 ≤ gw f k (wys f k) := by
  have h1 := hG.2 k hk (by omega)
  have hw := (hG.r.2.1 k hk).2.2.1
  obtain ⟨m, hm⟩ : ∃ m, wys f k = m + 1 := ⟨wys f k - 1, by unfold wys; omega⟩
  have h2 := (gw_in hG hk h3 m (by omega)).1
  rw [hm]
  show 1 ≤ gw f k m + (f (73 + 3 * k + m)).toInt
  have := (hG.1.2.2.2.1 k m hk (by unfold wys at hm; omega)).2
  omega
/-- one way more -/
theorem MEI_next (hG : GS f) {k i i2 : Nat} (hk : k < 12) (h3 : (f (1 + k)).toInt = 3) (hM : MLO f bu bl k) {a b : Int64} (h : MEI f bl k i a.toInt b.toInt) (hi : i < wys f k) {t x : Int32} {w l d ld m1 wu bd m2 s l2 b2 u : Int64} (ht : t = f (37 + 3 * k + i)) (hx : x = f (73 + 3 * k + i)) (hw : w = x.toInt64) (hl : l = bl t.toInt.toNat) (hu : u = bu t.toInt.toNat)
    (hd : ¬ d.toInt = 0 ∧ d.toInt ∣ b.toInt ∧ d.toInt ∣ l.toInt ∧ (0 ≤ b.toInt → 0 < d.toInt) ∧ ∀ e : Int, e ∣ b.toInt → e ∣ l.toInt → e ∣ d.toInt) (h1 : ld = l / d) (h2 : m1 = a * ld) (h4 : wu = w * u) (h5 : bd = b / d) (h6 : m2 = wu * bd) (h7 : s = m1 + m2) (h8 : b2 = bd * l2) (hl2 : l2 = l) (hi2 : i2 = i + 1) : MEI f bl k i2 s.toInt b2.toInt := by
  subst hi2 hl2
  have et : wtg f k i = t.toInt.toNat := by unfold wtg; rw [← ht]
  obtain ⟨c1, c2, c3⟩ := hM.2 i hi
  rw [et, ← hl] at c1
  rw [et, ← hu] at c2
  rw [et, ← hl, ← hu] at c3
  have hb := MEI_le hM h
  obtain ⟨a1, a2, a3, a4⟩ := h
  have hdp := hd.2.2.2.1 (by omega)
  obtain ⟨x1, x2, x3⟩ := tl_divx h1 hdp (by omega) hd.2.2.1
  obtain ⟨y1, y2, y3⟩ := tl_divx h5 hdp (by omega) hd.2.1
  have hwt : w.toInt = (f (73 + 3 * k + i)).toInt := by rw [tl_i2l hw, hx]
  have hw1 := (hG.1.2.2.2.1 k i hk (by unfold wys at hi; omega)).2
  have hw3 := ((hG.r.2.2 (3 * k + i) (by have := (hG.r.2.1 k hk).2.2.1; unfold wys at hi; omega)).2).2
  rw [← Nat.add_assoc] at hw3
  have hdv : ∀ L : Int, 0 ≤ L → (∀ j, j < wys f k → (bl (wtg f k j)).toInt ∣ L) → bd.toInt * l2.toInt ∣ L := fun L hL0 hL => lcm_step a1 c1 hdp hd.2.1 hd.2.2.1 hd.2.2.2.2 hL0 (a4 L hL0 hL) (by have := hL i hi; rw [et, ← hl] at this; exact this) y1
  have hbl : bd.toInt * l2.toInt ≤ 1000000000000 := by
    obtain ⟨⟨L, k1, k2, k3⟩, _⟩ := hM
    have := Int.le_of_dvd k1 (hdv L (by omega) k3)
    omega
  have hbd0 : 0 < bd.toInt := by
    refine Int.not_le.mp fun z => ?_
    have : bd.toInt = 0 := by omega
    rw [this, Int.zero_mul] at y1
    omega
  have hld0 : 0 ≤ ld.toInt := x2
  have hbl0 : 0 < bd.toInt * l2.toInt := Int.mul_pos hbd0 c1
  have eb2 : b2.toInt = bd.toInt * l2.toInt := by rw [h8]; exact tl_mul (by omega) (by omega)
  -- b * ld = bd * l
  have ecross : b.toInt * ld.toInt = bd.toInt * l2.toInt := by rw [← y1, ← x1]; grind
  have hgw := gw_in hG hk h3 i (by omega)
  have hgw2 := gw_in hG hk h3 (i + 1) (by omega)
  have egw : gw f k (i + 1) = gw f k i + w.toInt := by rw [hwt]; rfl
  -- a * ld
  have b1 : a.toInt * ld.toInt ≤ 127 * (gw f k i * b.toInt) * ld.toInt := Int.mul_le_mul_of_nonneg_right a3 hld0
  have b1' : 127 * (gw f k i * b.toInt) * ld.toInt = 127 * (gw f k i * (bd.toInt * l2.toInt)) := by rw [← ecross]; grind
  have b1n : 0 ≤ a.toInt * ld.toInt := Int.mul_nonneg a2 hld0
  have b1g : gw f k i * (bd.toInt * l2.toInt) ≤ 4 * 1000000000000 := Int.mul_le_mul hgw.2 hbl (by omega) (by omega)
  have em1 : m1.toInt = a.toInt * ld.toInt := by rw [h2]; exact tl_mul (by omega) (by omega)
  -- w * u * bd
  have hl2le : l2.toInt ≤ bd.toInt * l2.toInt := by
    have := Int.mul_le_mul_of_nonneg_right (show 1 ≤ bd.toInt by omega) (show 0 ≤ l2.toInt by omega)
    omega
  have g1 : w.toInt * u.toInt ≤ 3 * (127 * l2.toInt) := Int.mul_le_mul (by omega) c3 c2 (by omega)
  have g1n : 0 ≤ w.toInt * u.toInt := Int.mul_nonneg (by omega) c2
  have ewu : wu.toInt = w.toInt * u.toInt := by rw [h4]; exact tl_mul (by omega) (by omega)
  have g2 : wu.toInt * bd.toInt ≤ w.toInt * (127 * l2.toInt) * bd.toInt := by
    rw [ewu]
    exact Int.mul_le_mul_of_nonneg_right (Int.mul_le_mul_of_nonneg_left c3 (by omega)) (by omega)
  have g2' : w.toInt * (127 * l2.toInt) * bd.toInt = 127 * (w.toInt * (bd.toInt * l2.toInt)) := by grind
  have g2n : 0 ≤ wu.toInt * bd.toInt := Int.mul_nonneg (by omega) (by omega)
  have g2g : w.toInt * (bd.toInt * l2.toInt) ≤ 3 * 1000000000000 := Int.mul_le_mul (by omega) hbl (by omega) (by omega)
  have em2 : m2.toInt = wu.toInt * bd.toInt := by rw [h6]; exact tl_mul (by omega) (by omega)
  have es : s.toInt = m1.toInt + m2.toInt := by rw [h7]; exact tl_add (by omega) (by omega)
  refine ⟨by omega, by omega, ?_, fun L hL0 hL => by rw [eb2]; exact hdv L hL0 hL⟩
  rw [egw, eb2, Int.add_mul]
  omega
/-- what the mean lays -/
def MEA (f : Nat → Int32) (bl u l u' l' : Nat → Int64) (k : Nat) : Prop := (∀ j, j ≠ k → u' j = u j ∧ l' j = l j) ∧ 0 < (l' k).toInt ∧ 0 ≤ (u' k).toInt ∧ (u' k).toInt ≤ 127 * (l' k).toInt ∧ ∀ L : Int, 0 ≤ L → (∀ j, j < wys f k → (bl (wtg f k j)).toInt ∣ L) → (l' k).toInt ∣ 12 * L
theorem MEI_wt (hG : GS f) {k i : Nat} (hk : k < 12) (h3 : (f (1 + k)).toInt = 3) (hM : MLO f bu bl k) {a b : Int} {bb w m : Int64} {x : Int32} (h : MEI f bl k i a b) (hbb : bb.toInt = b) (hx : x.toInt = gw f k (wys f k)) (hw : w = x.toInt64) (hm : m = bb * w) : m.toInt = b * gw f k (wys f k) ∧ 0 < m.toInt := by
  have h1 := gw_in hG hk h3 (wys f k) (Nat.le_refl _)
  have h2 := gw_ge1 hG hk h3
  have hb := MEI_le hM h
  have h4 := h.1
  have ew : w.toInt = gw f k (wys f k) := by rw [tl_i2l hw, hx]
  have b1 : b * gw f k (wys f k) ≤ 1000000000000 * 4 := Int.mul_le_mul hb h1.2 h1.1 (by omega)
  have b2 : 0 < b * gw f k (wys f k) := Int.mul_pos h4 (by omega)
  have e : m.toInt = b * gw f k (wys f k) := by rw [hm, tl_mul (by rw [hbb, ew]; omega) (by rw [hbb, ew]; omega), hbb, ew]
  exact ⟨e, by omega⟩
theorem MEA_of (hG : GS f) {k i : Nat} (hk : k < 12) (h3 : (f (1 + k)).toInt = 3) {a b m : Int} {u l u' l' : Nat → Int64} (h : MEI f bl k i a b) (hi : i = wys f k) (hm : m = b * gw f k (wys f k)) (hL : LYS u l u' l' k a m) : MEA f bl u l u' l' k := by
  subst hi hm
  obtain ⟨a1, a2, a3, a4⟩ := h
  obtain ⟨x1, x2, x3, x4, x5, x6⟩ := hL.2 a2
  have h1 := gw_in hG hk h3 (wys f k) (Nat.le_refl _)
  have h2 := gw_ge1 hG hk h3
  have hp : 0 < b * gw f k (wys f k) := Int.mul_pos a1 (by omega)
  refine ⟨hL.1, x2, x4, ?_, fun L hL0 hLd => ?_⟩
  · refine Int.le_of_mul_le_mul_right ?_ hp
    rw [x1]
    have := Int.mul_le_mul_of_nonneg_left a3 (show 0 ≤ (l' k).toInt by omega)
    have e : (l' k).toInt * (127 * (gw f k (wys f k) * b)) = 127 * (l' k).toInt * (b * gw f k (wys f k)) := by grind
    omega
  · obtain ⟨q, hq⟩ := a4 L hL0 hLd
    have hW : gw f k (wys f k) ∣ 12 := by
      rcases (show gw f k (wys f k) = 1 ∨ gw f k (wys f k) = 2 ∨ gw f k (wys f k) = 3 ∨ gw f k (wys f k) = 4 by omega) with z | z | z | z <;> rw [z] <;> decide
    obtain ⟨r, hr⟩ := hW
    refine Int.dvd_trans x6 ⟨q * r, ?_⟩
    rw [hr, hq]; grind
def WIN (bu bl : Nat → Int64) (n : Nat) (L : Int) : Prop := ∀ t, t < n → 0 < (bl t).toInt ∧ (bl t).toInt ∣ L ∧ 0 ≤ (bu t).toInt ∧ (bu t).toInt ≤ 127 * (bl t).toInt
theorem pow12 {i : Nat} (h : i ≤ 8) : 0 < (12 : Int) ^ i ∧ (12 : Int) ^ i ≤ 1000000000000 := by
  rcases (show i = 0 ∨ i = 1 ∨ i = 2 ∨ i = 3 ∨ i = 4 ∨ i = 5 ∨ i = 6 ∨ i = 7 ∨ i = 8 by omega) with rfl | rfl | rfl | rfl | rfl | rfl | rfl | rfl | rfl <;> decide
theorem WIN_zero {L : Int} : WIN bu bl 0 L := fun t h => absurd h (by omega)
theorem WIN_MLO (hG : GS f) {k i : Nat} (hk : k < 12) (hi : i ≤ 8) (h : WIN bu bl (f 0).toInt.toNat ((12 : Int) ^ i)) : MLO f bu bl k := by
  have hp := pow12 hi
  have ht : ∀ j, j < wys f k → wtg f k j < (f 0).toInt.toNat := fun j hj => by have := (gs_w1 hG hk hj).2.2.1; omega
  exact ⟨⟨_, hp.1, hp.2, fun j hj => (h _ (ht j hj)).2.1⟩, fun j hj => by obtain ⟨a, _, b, c⟩ := h _ (ht j hj); exact ⟨a, b, c⟩⟩
theorem WIN_put {u l u' l' : Nat → Int64} {k k2 : Nat} {L : Int} (h : WIN u l k L) (ho : ∀ j, j ≠ k → u' j = u j ∧ l' j = l j) (hk : 0 < (l' k).toInt ∧ (l' k).toInt ∣ L ∧ 0 ≤ (u' k).toInt ∧ (u' k).toInt ≤ 127 * (l' k).toInt) (e : k2 = k + 1) : WIN u' l' k2 L := by
  subst e
  intro t ht
  by_cases q : t = k
  · subst q; exact hk
  · rw [(ho t q).1, (ho t q).2]; exact h t (by omega)
theorem WIN_mean (hG : GS f) {u l u' l' : Nat → Int64} {k k2 i i2 : Nat} (hk : k < 12) (hb : WIN bu bl (f 0).toInt.toNat ((12 : Int) ^ i)) (h : WIN u l k ((12 : Int) ^ i2)) (hm : MEA f bl u l u' l' k) (hi : i ≤ 8) (ei : i2 = i + 1) (e : k2 = k + 1) : WIN u' l' k2 ((12 : Int) ^ i2) := by
  subst ei
  refine WIN_put h hm.1 ⟨hm.2.1, ?_, hm.2.2.1, hm.2.2.2.1⟩ e
  have := hm.2.2.2.2 ((12 : Int) ^ i) (by have := pow12 hi; omega) (fun j hj => (hb _ (by have := (gs_w1 hG hk hj).2.2.1; omega)).2.1)
  rw [Int.pow_succ, Int.mul_comm]; exact this
/-- what a choice lays -/
def CHP (n : Nat) (bu bl u l u' l' : Nat → Int64) (k : Nat) : Prop := (∀ j, j ≠ k → u' j = u j ∧ l' j = l j) ∧ ∃ t, t < n ∧ u' k = bu t ∧ l' k = bl t
theorem CHP_of {n : Nat} {u l u' l' : Nat → Int64} {k : Nat} {t : Nat} {x y : Int64} (ht : t < n) (hx : x = bu t) (hy : y = bl t) (hu : u' = fun j9 => if j9 = k then x else u j9) (hl : l' = fun j9 => if j9 = k then y else l j9) : CHP n bu bl u l u' l' k := by
  subst hu hl
  exact ⟨fun j hj => ⟨if_neg hj, if_neg hj⟩, t, ht, (if_pos rfl).trans hx, (if_pos rfl).trans hy⟩
theorem WIN_cho {n : Nat} {u l u' l' : Nat → Int64} {k k2 i i2 : Nat} (hb : WIN bu bl n ((12 : Int) ^ i)) (h : WIN u l k ((12 : Int) ^ i2)) (hm : CHP n bu bl u l u' l' k) (ei : i2 = i + 1) (e : k2 = k + 1) : WIN u' l' k2 ((12 : Int) ^ i2) := by
  subst ei
  obtain ⟨t, ht, e1, e2⟩ := hm.2
  obtain ⟨a, b, c, d⟩ := hb t ht
  refine WIN_put h hm.1 ⟨by rw [e2]; exact a, ?_, by rw [e1]; exact c, by rw [e1, e2]; exact d⟩ e
  rw [e2, Int.pow_succ]
  exact Int.dvd_mul_of_dvd_left b
theorem WIN_lay {u l u' l' : Nat → Int64} {k k2 : Nat} {L a b : Int} (h : WIN u l k L) (hL : LYS u l u' l' k a b) (hb : b = 1) (ha : 0 ≤ a ∧ a ≤ 9) (e : k2 = k + 1) : WIN u' l' k2 L := by
  subst hb
  obtain ⟨x1, x2, x3, x4, x5, _⟩ := hL.2 ha.1
  have e1 : (l' k).toInt = 1 := by omega
  exact WIN_put h hL.1 ⟨x2, by rw [e1]; exact Int.one_dvd L, x4, by omega⟩ e
theorem WIN_set {k k2 : Nat} {L : Int} {x y : Int64} {bu' bl' : Nat → Int64} (h : WIN bu bl k L) (hu : bu' = fun j9 => if j9 = k then x else bu j9) (hl : bl' = fun j9 => if j9 = k then y else bl j9) (hk : 0 < y.toInt ∧ y.toInt ∣ L ∧ 0 ≤ x.toInt ∧ x.toInt ≤ 127 * y.toInt) (e : k2 = k + 1) : WIN bu' bl' k2 L := by
  subst hu hl
  refine WIN_put h (fun j hj => ⟨if_neg hj, if_neg hj⟩) ?_ e
  show 0 < (if k = k then y else bl k).toInt ∧ (if k = k then y else bl k).toInt ∣ L ∧ 0 ≤ (if k = k then x else bu k).toInt ∧ (if k = k then x else bu k).toInt ≤ 127 * (if k = k then y else bl k).toInt
  rw [if_pos rfl, if_pos rfl]; exact hk
theorem WIN_copy {u l bu' bl' : Nat → Int64} {n k k2 : Nat} {L : Int} {x y : Int64} (hw : WIN u l n L) (h : WIN bu bl k L) (hx : x = u k) (hy : y = l k) (hu : bu' = fun j9 => if j9 = k then x else bu j9) (hl : bl' = fun j9 => if j9 = k then y else bl j9) (hk : k < n) (e : k2 = k + 1) : WIN bu' bl' k2 L := WIN_set h hu hl (by rw [hx, hy]; exact hw k hk) e
/-- the way chosen so far -/
def CHB (f : Nat → Int32) (k : Nat) (b : Int) (m : Nat) : Prop := (b < 0 → ∀ i : Nat, i < m → ¬ ((f (109 + k)).toInt < 0 ∨ (f (109 + k)).toInt = (i : Int))) ∧ b < (f 0).toInt
theorem CHB_zero (hG : GS f) {k : Nat} {b : Int} (hb : b = -1) : CHB f k b 0 := ⟨fun _ i h => absurd h (by omega), by have := hG.r.1; omega⟩
theorem CHB_skip {k m m2 : Nat} {b : Int} (h : CHB f k b m) (hq : ¬ ((f (109 + k)).toInt < 0 ∨ (f (109 + k)).toInt = (m : Int))) (e : m2 = m + 1) : CHB f k b m2 := by
  subst e
  refine ⟨fun z i hi => ?_, h.2⟩
  by_cases q : i = m
  · subst q; exact hq
  · exact h.1 z i (by omega)
theorem CHB_keep {k m m2 : Nat} {b : Int} (h : CHB f k b m) (hb : 0 ≤ b) : CHB f k b m2 := ⟨fun z => absurd z (by omega), h.2⟩
theorem CHB_set {k m : Nat} {t : Int} (ht : 0 ≤ t ∧ t < (f 0).toInt) : CHB f k t m := ⟨fun z => absurd z (by omega), ht.2⟩
theorem CHB_end (hG : GS f) {k m : Nat} {b : Int} (hk : k < 12) (hk0 : ¬ (f (1 + k)).toInt = 0) (h : CHB f k b m) (hm : (f (25 + k)).toInt ≤ (m : Int)) : 0 ≤ b ∧ b < (f 0).toInt := by
  refine ⟨Int.not_lt.mp fun z => ?_, h.2⟩
  have h1 := hG.2 k hk hk0
  have h2 := hG.1.2.2.2.2.2.1 k hk hk0
  by_cases q : (f (109 + k)).toInt < 0
  · exact h.1 z 0 (by omega) (Or.inl q)
  · exact h.1 z (f (109 + k)).toInt.toNat (by omega) (Or.inr (by omega))
theorem tl_cmpge {x y : Int64} {v : Int32} (hv : v = lg_cmp x y) (h : 0 ≤ v) : y.toInt ≤ x.toInt := by
  rw [hv] at h
  unfold lg_cmp at h
  by_cases q : x > y
  · have := Int64.lt_iff_toInt_lt.mp q; omega
  · rw [if_neg q] at h
    by_cases q2 : x = y
    · rw [q2]; omega
    · rw [if_neg q2] at h; exact absurd h (by decide)
theorem tl_cmpnlt {x y : Int64} {v : Int32} (hv : v = lg_cmp x y) (h : ¬ v < 0) : y.toInt ≤ x.toInt := tl_cmpge hv (Int32.not_lt.mp h)
theorem tr_irem {x y z : Int32} {n : Int} (hz : z = x - x / y * y) (hx : 0 ≤ x.toInt) (hy : 0 < y.toInt) (hn : y.toInt = n) : 0 ≤ z.toInt ∧ z.toInt < n := by
  have h1 := tr_any x
  have h2 := tr_any y
  have e1 : (x / y).toInt = x.toInt / y.toInt := by
    rw [Int32.toInt_div, Int.tdiv_eq_ediv_of_nonneg hx]
    have a1 := Int.ediv_nonneg hx (show 0 ≤ y.toInt by omega)
    have a2 := Int.ediv_le_self y.toInt hx
    exact tr_bmod (by omega) (by omega)
  have a3 := Int.mul_ediv_add_emod x.toInt y.toInt
  have a4 := Int.emod_nonneg x.toInt (show y.toInt ≠ 0 by omega)
  have a5 := Int.emod_lt_of_pos x.toInt hy
  have e2 : (x / y * y).toInt = y.toInt * (x.toInt / y.toInt) := by
    rw [Int32.toInt_mul, e1, Int.mul_comm]
    have a6 := Int.mul_nonneg (show 0 ≤ y.toInt by omega) (Int.ediv_nonneg hx (show 0 ≤ y.toInt by omega))
    exact tr_bmod (by omega) (by omega)
  have e3 : z.toInt = x.toInt - y.toInt * (x.toInt / y.toInt) := by
    rw [hz, Int32.toInt_sub, e2]
    exact tr_bmod (by omega) (by omega)
  omega
theorem tr_ushr8 {x v : Int32} (hv : v = (x.toUInt32 >>> ((8 : Int32).toUInt32 &&& Int32.toUInt32 31)).toInt32) : 0 ≤ v.toInt := by
  have e : (8 : Int32).toUInt32 &&& Int32.toUInt32 31 = 8 := by decide
  rw [hv, e]
  have h : (x.toUInt32 >>> 8).toNat < 2 ^ 31 := by
    rw [UInt32.toNat_shiftRight]
    have h1 := x.toUInt32.toNat_lt
    have : (8 : UInt32).toNat % 32 = 8 := by decide
    rw [this, Nat.shiftRight_eq_div_pow]
    omega
  show 0 ≤ (x.toUInt32 >>> 8).toBitVec.toInt
  rw [BitVec.toInt_eq_toNat_of_lt (by show 2 * (x.toUInt32 >>> 8).toNat < 2 ^ 32; omega)]
  omega
/-- told fractions -/
def TLS (bu bl : Nat → Int64) (n : Nat) : Prop := ∀ t, t < n → 0 < (bl t).toInt ∧ (bl t).toInt ≤ 127 ∧ 0 ≤ (bu t).toInt ∧ (bu t).toInt ≤ 127
theorem TLS_next {k k2 : Nat} {x y : Int64} {bu' bl' : Nat → Int64} (h : TLS bu bl k) (hu : bu' = fun j9 => if j9 = k then x else bu j9) (hl : bl' = fun j9 => if j9 = k then y else bl j9) (hk : 0 < y.toInt ∧ y.toInt ≤ 127 ∧ 0 ≤ x.toInt ∧ x.toInt ≤ 127) (e : k2 = k + 1) : TLS bu' bl' k2 := by
  subst hu hl e
  intro t ht
  show 0 < (if t = k then y else bl t).toInt ∧ (if t = k then y else bl t).toInt ≤ 127 ∧ 0 ≤ (if t = k then x else bu t).toInt ∧ (if t = k then x else bu t).toInt ≤ 127
  by_cases q : t = k
  · rw [if_pos q, if_pos q]; exact hk
  · rw [if_neg q, if_neg q]; exact h t (by omega)
theorem TLS_MLO (hG : GS f) {k : Nat} (hk : k < 12) (h : TLS bu bl (f 0).toInt.toNat) : MLO f bu bl k := by
  have ht : ∀ j, j < wys f k → wtg f k j < (f 0).toInt.toNat := fun j hj => by have := (gs_w1 hG hk hj).2.2.1; omega
  have h3 : wys f k ≤ 3 := by have := (hG.r.2.1 k hk).2.2.1; unfold wys; omega
  refine ⟨?_, fun j hj => by obtain ⟨a, b, c, d⟩ := h _ (ht j hj); exact ⟨a, c, by omega⟩⟩
  have key : ∀ m, m ≤ wys f k → ∃ L : Int, 0 < L ∧ L ≤ 127 ^ m ∧ ∀ j, j < m → (bl (wtg f k j)).toInt ∣ L := by
    intro m
    induction m with
    | zero => exact fun _ => ⟨1, by decide, by decide, fun j hj => absurd hj (by omega)⟩
    | succ m ih =>
      intro hm
      obtain ⟨L, a1, a2, a3⟩ := ih (by omega)
      obtain ⟨b1, b2, _, _⟩ := h _ (ht m (by omega))
      refine ⟨L * (bl (wtg f k m)).toInt, Int.mul_pos a1 b1, by rw [Int.pow_succ]; exact Int.mul_le_mul a2 b2 (by omega) (by omega), fun j hj => ?_⟩
      by_cases q : j = m
      · subst q; exact Int.dvd_mul_left _ _
      · exact Int.dvd_mul_of_dvd_left (a3 j (by omega))
  obtain ⟨L, a1, a2, a3⟩ := key (wys f k) (Nat.le_refl _)
  refine ⟨L, a1, Int.le_trans a2 ?_, a3⟩
  rcases (show wys f k = 0 ∨ wys f k = 1 ∨ wys f k = 2 ∨ wys f k = 3 by omega) with z | z | z | z <;> rw [z] <;> decide
end MN
