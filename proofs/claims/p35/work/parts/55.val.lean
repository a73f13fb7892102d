/-! what a play is worth: it is there, it is one alone, it is none below 0 -/
theorem pm_s_lin {n : Nat} (A : Nat → Nat → Rat) (r : Rat) (y z : Nat → Rat) (i : Nat) : pm_s n A (fun j => r * y j + z j) i = r * pm_s n A y i + pm_s n A z i := by
  unfold pm_s
  rw [← pz_m_lin]
  exact pz_m_congr n (fun j _ => by grind)
theorem EH.nonneg {n : Nat} {A : Nat → Nat → Int} (h : EH n A) (hb : ∀ i, i < n → 0 ≤ A i n) : ∀ i, i < n → 0 ≤ eX A n i n := by
  intro i hi
  refine Int.not_lt.mp fun hlt => ?_
  obtain ⟨z, hz, hz2⟩ := h.x
  obtain ⟨k, hk, hmax⟩ := pz_max (fun j => -((eX A n j n : Int) : Rat) / z j) n (by omega)
  have hr0 : 0 < -((eX A n k n : Int) : Rat) / z k := by
    have h1 := hmax i hi
    have h3 : ((eX A n i n : Int) : Rat) < ((0 : Int) : Rat) := by exact_mod_cast hlt
    rw [show ((0 : Int) : Rat) = 0 from rfl] at h3
    have h4 : 0 < -((eX A n i n : Int) : Rat) := by clear hmax hz hz2 hb h; grind
    have h2 : 0 < -((eX A n i n : Int) : Rat) / z i := pm_div_pos h4 (hz i hi)
    clear hmax hz hz2 hb h
    grind
  generalize hr : -((eX A n k n : Int) : Rat) / z k = r at hr0 hmax
  have hy : ∀ j, j < n → 0 ≤ r * z j + ((eX A n j n : Int) : Rat) := fun j hj => by
    have h1 := hmax j hj
    have h2 := hz j hj
    have h3 := Rat.mul_le_mul_of_nonneg_right (c := z j) h1 (by grind)
    have h4 : -((eX A n j n : Int) : Rat) / z j * z j = -((eX A n j n : Int) : Rat) := Rat.div_mul_cancel (by grind)
    grind
  have hyk : r * z k + ((eX A n k n : Int) : Rat) = 0 := by
    have h2 := hz k hk
    have h4 : -((eX A n k n : Int) : Rat) / z k * z k = -((eX A n k n : Int) : Rat) := Rat.div_mul_cancel (by grind)
    rw [hr] at h4
    grind
  have hs := pm_s_lin (n := n) (eA A) r z (fun j => ((eX A n j n : Int) : Rat)) k
  rw [h.solved k hk] at hs
  have h5 := hz2 k hk
  have h6 : 0 ≤ ((eb A n : Int) : Rat) * eA A k n := Rat.mul_nonneg (by exact_mod_cast (by have := h.bpos (c := n) (Nat.le_refl _); omega : 0 ≤ eb A n)) (by show (0 : Rat) ≤ ((A k n : Int) : Rat); exact_mod_cast hb k hk)
  have h7 : 0 < r * pm_s n (eA A) z k := Rat.mul_pos hr0 h5
  have h8 : pm_s n (eA A) (fun j => r * z j + ((eX A n j n : Int) : Rat)) k ≤ 0 := by
    have := pz_m_le (u := fun j => eA A k j * (r * z j + ((eX A n j n : Int) : Rat))) (v := fun _ => 0) n (fun j hj => by
      by_cases q : k = j
      · subst q; rw [hyk, Rat.mul_zero]; exact Rat.le_refl
      · have a1 := h.pO k j hk hj q
        have a2 := hy j hj
        have := Rat.mul_nonneg (show 0 ≤ -(eA A k j) by grind) a2
        grind)
    rw [pz_m_zero (u := fun _ => 0) (fun _ _ => rfl)] at this
    exact this
  grind
def VAL (f c : Nat → Int32) (v : Nat → Rat) : Prop :=
  (∀ k, k < (f 0).toInt.toNat → (f (1 + k)).toInt = 0 → v k = (((f (13 + k)).toInt : Int) : Rat)) ∧ (∀ k, k < (f 0).toInt.toNat → ¬ (f (1 + k)).toInt = 0 → ¬ RC f c k → v k = 0) ∧
  ∀ k, k < (f 0).toInt.toNat → ¬ (f (1 + k)).toInt = 0 → RC f c k → gsR f c k (fun _ => 1) (wys f k) * v k = gsR f c k v (wys f k)
/-- what is laid ahead of the solving: pays at ends -/
def upay (f : Nat → Int32) : Nat → Int := fun t => if (f (1 + t)).toInt = 0 then (f (13 + t)).toInt else 0
section VS
variable {f c w : Nat → Int32} {N : Nat} {A : Nat → Nat → Int}
theorem MAT_VAL {u : Nat → Int} (hG : GS f) (hR : RWI f c w (f 0).toInt.toNat N) (hM : MAT f c w N 1 1 0 u (f 0).toInt.toNat A) (hu : ∀ t, t < (f 0).toInt.toNat → u t = upay f t) :
    VAL f c (fun t => if 0 ≤ (w t).toInt then ((eX A N (w t).toInt.toNat N : Int) : Rat) / ((eb A N : Int) : Rat) else ((u t : Int) : Rat)) := by
  have h0 := hG.r.1
  have hE := MAT_EH hG hR hM (by omega) (by omega)
  have hb : (0 : Rat) < ((eb A N : Int) : Rat) := by exact_mod_cast hE.bpos (Nat.le_refl _)
  refine ⟨fun k hk h1 => ?_, fun k hk h1 h2 => ?_, fun k hk h1 h2 => ?_⟩
  · have := (hR.1 k hk).1
    show (if 0 ≤ (w k).toInt then _ else _) = _
    rw [if_neg (fun z => (this.mp z).1 h1), hu k hk]
    unfold upay
    rw [if_pos h1]
  · have := (hR.1 k hk).1
    show (if 0 ≤ (w k).toInt then _ else _) = _
    rw [if_neg (fun z => h2 (this.mp z).2), hu k hk]
    unfold upay
    rw [if_neg h1]; rfl
  · have hw := (hR.1 k hk).1.mpr ⟨h1, h2⟩
    have hwN := (hR.1 k hk).2
    have hs := hE.solved (w k).toInt.toNat (by omega)
    rw [MAT_sum hG hR hM hk (i := (w k).toInt.toNat) (by omega)] at hs
    have hA := hM k hk hw N (Nat.le_refl _)
    unfold arow at hA
    rw [if_pos rfl, Int.zero_mul, Int.add_zero, Int.one_mul] at hA
    have hAR : eA A (w k).toInt.toNat N = gsR f c k (fun t => ((if (w t).toInt < 0 then u t else 0 : Int) : Rat)) (wys f k) := by
      show ((A _ N : Int) : Rat) = _
      rw [hA, gsR_cast]
    rw [hAR, show ((1 : Int) : Rat) = 1 from rfl] at hs
    have hl := gsR_lin (f := f) (c := c) (k := k) (1 / ((eb A N : Int) : Rat)) (Yw w (fun j => ((eX A N j N : Int) : Rat))) (fun t => ((if (w t).toInt < 0 then u t else 0 : Int) : Rat)) (wys f k)
    show gsR f c k (fun _ => 1) (wys f k) * (if 0 ≤ (w k).toInt then ((eX A N (w k).toInt.toNat N : Int) : Rat) / ((eb A N : Int) : Rat) else ((u k : Int) : Rat)) = _
    rw [gsR_congr (f := f) (c := c) (k := k) (u := fun t => if 0 ≤ (w t).toInt then ((eX A N (w t).toInt.toNat N : Int) : Rat) / ((eb A N : Int) : Rat) else ((u t : Int) : Rat)) (v := fun t => 1 / ((eb A N : Int) : Rat) * Yw w (fun j => ((eX A N j N : Int) : Rat)) t + ((if (w t).toInt < 0 then u t else 0 : Int) : Rat)) (wys f k) (fun i hi _ => by
      unfold Yw
      dsimp only
      by_cases q : 0 ≤ (w (wtg f k i)).toInt
      · rw [if_pos q, if_pos q, if_neg (by omega), show ((0 : Int) : Rat) = 0 from rfl]; grind
      · rw [if_neg q, if_neg q, if_pos (by omega)]; grind), hl, if_pos hw]
    generalize gsR f c k (Yw w (fun j => ((eX A N j N : Int) : Rat))) (wys f k) = Z at hs ⊢
    generalize gsR f c k (fun t => ((if (w t).toInt < 0 then u t else 0 : Int) : Rat)) (wys f k) = X at hs ⊢
    generalize gsR f c k (fun _ => 1) (wys f k) = all at hs ⊢
    generalize ((eX A N (w k).toInt.toNat N : Int) : Rat) = x at hs ⊢
    generalize ((eb A N : Int) : Rat) = B at hb hs ⊢
    have e1 : all * (x / B) = (all * x) / B := by grind
    have e2 : (B * X) / B = X := by rw [Rat.mul_comm]; exact Rat.mul_div_cancel (by grind)
    have e3 : all * x = Z + B * X := by grind
    rw [e1, e3]
    grind
theorem i32_small {N : Nat} (h : N ≤ 12) : (Int32.ofInt (N : Int)).toInt = (N : Int) := by
  rcases (show N = 0 ∨ N = 1 ∨ N = 2 ∨ N = 3 ∨ N = 4 ∨ N = 5 ∨ N = 6 ∨ N = 7 ∨ N = 8 ∨ N = 9 ∨ N = 10 ∨ N = 11 ∨ N = 12 by omega) with rfl | rfl | rfl | rfl | rfl | rfl | rfl | rfl | rfl | rfl | rfl | rfl | rfl <;> decide
theorem RWI_ex (f c : Nat → Int32) : ∀ m, m ≤ 12 → ∃ (w : Nat → Int32) (N : Nat), RWI f c w m N
  | 0, _ => ⟨fun _ => 0, 0, RWI_zero f c _⟩
  | m + 1, hm => by
    obtain ⟨w, N, h⟩ := RWI_ex f c m (by omega)
    have hN := h.2.2.2.1
    by_cases q : rwS f c m
    · exact ⟨upd w m (Int32.ofInt (N : Int)), N + 1, RWI_row h (fun k hk => upd_ne _ _ (by omega)) (by rw [upd_at]; exact i32_small (by omega)) q rfl rfl⟩
    · exact ⟨upd w m (-1), N, RWI_not h (fun k hk => upd_ne _ _ (by omega)) (by rw [upd_at]; decide) q rfl⟩
theorem VAL_ex (hG : GS f) (c : Nat → Int32) : ∃ v, VAL f c v := by
  have h0 := hG.r.1
  obtain ⟨w, N, hR⟩ := RWI_ex f c (f 0).toInt.toNat (by omega)
  have hA : ∃ A : Nat → Nat → Int, MAT f c w N 1 1 0 (upay f) (f 0).toInt.toNat A := by
    have hx : ∀ j, ∃ r : Nat, j < N → r < (f 0).toInt.toNat ∧ (w r).toInt = (j : Int) := fun j => by
      by_cases q : j < N
      · obtain ⟨k, hk, e1⟩ := hR.2.1 j q
        exact ⟨k, fun _ => ⟨hk, e1⟩⟩
      · exact ⟨0, fun z => absurd z q⟩
    refine ⟨fun i j => arow f c w N 1 1 0 (upay f) (hx i).choose j, fun k hk hw j hj => ?_⟩
    have h1 := (hR.1 k hk).2
    obtain ⟨h2, h3⟩ := (hx (w k).toInt.toNat).choose_spec (by omega)
    show arow f c w N 1 1 0 (upay f) (hx (w k).toInt.toNat).choose j = _
    rw [hR.2.2.1 _ _ h2 hk (by omega) (by omega)]
  obtain ⟨A, hM⟩ := hA
  exact ⟨_, MAT_VAL hG hR hM (fun _ _ => rfl)⟩
end VS
section PU
variable {n : Nat} {en : Nat → Bool} {pay : Nat → Rat} {pl mx : Nat → Bool} {ch : Nat → List (Nat × Nat)} {to : Nat → Nat → Nat} {al : Nat → Nat → Prop}
theorem pz_V_uniq (hN : pz_N n en pay pl mx ch to al) {c : Nat → Nat} (hc : pz_L n pl al c) {v v' : Nat → Rat} (hv : pz_V n en pay pl ch to c v) (hv' : pz_V n en pay pl ch to c v') : ∀ k, k < n → v k = v' k := by
  have H : ∀ v v' : Nat → Rat, pz_V n en pay pl ch to c v → pz_V n en pay pl ch to c v' → ∀ k, k < n → v k - v' k ≤ 0 := fun v v' hv hv' => pz_prin (pz_ok_of hN hc) (u := fun k => v k - v' k) (fun k hk h => by
    by_cases q : en k = true
    · rw [hv.1 k hk q, hv'.1 k hk q]; grind
    · have q' : en k = false := by simpa using q
      have h2 : ¬ pz_C en (pz_sc pl ch to c) k := h.resolve_left q
      rw [hv.2.1 k hk q' h2, hv'.2.1 k hk q' h2]; grind) (fun k hk h1 h2 => by
    have e1 := hv.2.2 k hk h1 h2
    have e2 := hv'.2.2 k hk h1 h2
    rw [pz_s_sub]
    grind)
  intro k hk
  have h1 := H v v' hv hv' k hk
  have h2 := H v' v hv' hv k hk
  grind
end PU
/-! the game of a row, for the rows of 00 to 02 -/
def gEn (f : Nat → Int32) (k : Nat) : Bool := decide ((f (1 + k)).toInt = 0)
def gPay (f : Nat → Int32) (k : Nat) : Rat := (((f (13 + k)).toInt : Int) : Rat)
def gPl (f : Nat → Int32) (k : Nat) : Bool := decide ((f (1 + k)).toInt = 1 ∨ (f (1 + k)).toInt = 2)
def gMx (f : Nat → Int32) (k : Nat) : Bool := decide ((f (1 + k)).toInt = 1)
def gCh (f : Nat → Int32) (k : Nat) : List (Nat × Nat) := (List.range (wys f k)).map (fun i => ((wwt f k i).toNat, wtg f k i))
def gAl (f : Nat → Int32) (k i : Nat) : Prop := i < wys f k ∧ ((f (109 + k)).toInt < 0 ∨ (f (109 + k)).toInt = (i : Int))
def gNo (f : Nat → Int32) : Nat := (f 0).toInt.toNat
section GV
variable {f : Nat → Int32}
theorem g_N (hG : GS f) : pz_N (gNo f) (gEn f) (gPay f) (gPl f) (gMx f) (gCh f) (wtg f) (gAl f) := by
  have h0 := hG.r.1
  refine ⟨fun k hk h1 h2 => ?_, fun k hk i h1 h2 => ?_, fun k hk h1 => ?_, fun k h1 => ?_⟩
  · unfold gNo at hk
    have hk0 : ¬ (f (1 + k)).toInt = 0 := by unfold gEn at h1; simpa using h1
    have hw := hG.2 k (by omega) hk0
    refine ⟨?_, fun p hp => ?_⟩
    · unfold gCh
      intro e
      have := congrArg List.length e
      rw [List.length_map, List.length_range] at this
      have h9 : wys f k = 0 := this
      unfold wys at h9
      omega
    · unfold gCh at hp
      obtain ⟨i, hi, rfl⟩ := List.mem_map.mp hp
      have h3 := gs_w1 hG (k := k) (by omega) (List.mem_range.mp hi)
      unfold gNo
      exact ⟨by show 0 < (wwt f k i).toNat; omega, by show wtg f k i < _; omega⟩
  · unfold gNo at hk
    have h3 := gs_w1 hG (k := k) (by omega) h2.1
    unfold gNo; omega
  · unfold gNo at hk
    have := ((hG.r.2.1 k (by omega)).2.1).1
    unfold gPay; exact_mod_cast this
  · unfold gMx at h1; unfold gPl
    have : (f (1 + k)).toInt = 1 := by simpa using h1
    simp [this]
theorem gsR_chance {c : Nat → Int32} {k : Nat} (h3 : (f (1 + k)).toInt = 3) (v : Nat → Rat) : ∀ m, (∀ i, i < m → 0 ≤ wwt f k i) → gsR f c k v m = pz_s ((List.range m).map (fun i => ((wwt f k i).toNat, wtg f k i))) v
  | 0, _ => rfl
  | m + 1, h => by
    have app : ∀ (l : List (Nat × Nat)) (p : Nat × Nat), pz_s (l ++ [p]) v = pz_s l v + (p.1 : Rat) * v p.2 := fun l p => by
      induction l with
      | nil => show (p.1 : Rat) * v p.2 + 0 = 0 + _; grind
      | cons q l ih => show (q.1 : Rat) * v q.2 + pz_s (l ++ [p]) v = _; rw [ih]; show _ = (q.1 : Rat) * v q.2 + pz_s l v + _; grind
    rw [List.range_succ, List.map_append]
    show gsR f c k v m + _ = pz_s (_ ++ [((wwt f k m).toNat, wtg f k m)]) v
    rw [app, gsR_chance h3 v m (fun i hi => h i (by omega)), if_pos (Or.inl h3)]
    have e : ((wwt f k m : Int) : Rat) = (((wwt f k m).toNat : Nat) : Rat) := by
      have := h m (by omega)
      obtain ⟨n, hn⟩ := Int.eq_ofNat_of_zero_le this
      rw [hn]; rfl
    rw [e]
theorem gsR_player {c : Nat → Int32} {k i : Nat} (h3 : ¬ (f (1 + k)).toInt = 3) (hc : (c k).toInt = (i : Int)) (v : Nat → Rat) : ∀ m, gsR f c k v m = if i < m then v (wtg f k i) else 0
  | 0 => by rw [if_neg (by omega)]; rfl
  | m + 1 => by
    show gsR f c k v m + _ = _
    rw [gsR_player h3 hc v m]
    by_cases q : i = m
    · subst q
      rw [if_neg (by omega), if_pos (Or.inr hc), if_pos (by omega)]
      unfold wwt
      rw [if_neg h3, show ((1 : Int) : Rat) = 1 from rfl]; grind
    · have q2 : ¬ wsel f c k m := fun z => by rcases z with z | z; exact h3 z; omega
      rw [if_neg q2]
      by_cases q3 : i < m
      · rw [if_pos q3, if_pos (by omega)]; grind
      · rw [if_neg q3, if_neg (by omega)]; grind
theorem g_pl (hG : GS f) {k : Nat} (hk : k < gNo f) (h0 : ¬ (f (1 + k)).toInt = 0) (h3 : ¬ (f (1 + k)).toInt = 3) : gPl f k = true := by
  have h1 := hG.r.1
  unfold gNo at hk
  have := (hG.r.2.1 k (by omega)).1
  unfold gPl
  have : (f (1 + k)).toInt = 1 ∨ (f (1 + k)).toInt = 2 := by omega
  simp [this]
theorem g_pl3 {k : Nat} (h3 : (f (1 + k)).toInt = 3) : gPl f k = false := by unfold gPl; simp [h3]
theorem g_sum (hG : GS f) {d : Nat → Int32} {c : Nat → Nat} (hd : ∀ k, k < gNo f → gPl f k = true → (d k).toInt = (c k : Int)) (hc : pz_L (gNo f) (gPl f) (gAl f) c) {k : Nat} (hk : k < gNo f) (h0 : ¬ (f (1 + k)).toInt = 0) (v : Nat → Rat) : gsR f d k v (wys f k) = pz_s (pz_sc (gPl f) (gCh f) (wtg f) c k) v := by
  have hn := hG.r.1
  have hk12 : k < 12 := by unfold gNo at hk; omega
  unfold pz_sc
  by_cases h3 : (f (1 + k)).toInt = 3
  · rw [g_pl3 h3, if_neg (by decide)]
    exact gsR_chance h3 v _ (gs_wn hG hk12)
  · have hp := g_pl hG hk h0 h3
    rw [hp, if_pos rfl, gsR_player h3 (hd k hk hp) v, if_pos (hc k hk hp).1]
    show _ = ((1 : Nat) : Rat) * v (wtg f k (c k)) + 0
    rw [show ((1 : Nat) : Rat) = 1 from rfl]; grind
theorem g_on (hG : GS f) {d : Nat → Int32} {c : Nat → Nat} (hd : ∀ k, k < gNo f → gPl f k = true → (d k).toInt = (c k : Int)) (hc : pz_L (gNo f) (gPl f) (gAl f) c) {k : Nat} (hk : k < gNo f) (h0 : ¬ (f (1 + k)).toInt = 0) (j : Nat) : ON f d k j ↔ ∃ p, p ∈ pz_sc (gPl f) (gCh f) (wtg f) c k ∧ p.2 = j := by
  have hn := hG.r.1
  have hk12 : k < 12 := by unfold gNo at hk; omega
  have hw := (hG.r.2.1 k hk12).2.2.1
  unfold pz_sc ON
  by_cases h3 : (f (1 + k)).toInt = 3
  · rw [g_pl3 h3, if_neg (by decide)]
    unfold gCh
    constructor
    · rintro ⟨i, hi, _, ht⟩
      exact ⟨_, List.mem_map.mpr ⟨i, List.mem_range.mpr (by unfold wys; omega), rfl⟩, by show wtg f k i = j; unfold wtg; omega⟩
    · rintro ⟨p, hp, e⟩
      obtain ⟨i, hi, rfl⟩ := List.mem_map.mp hp
      have hi := List.mem_range.mp hi
      have h4 := (gs_w1 hG hk12 hi).2.2.2
      have e : wtg f k i = j := e
      exact ⟨i, by unfold wys at hi; omega, Or.inl h3, by omega⟩
  · have hp := g_pl hG hk h0 h3
    have hck := hd k hk hp
    have hcl := (hc k hk hp).1
    have h4 := (gs_w1 hG hk12 hcl).2.2.2
    rw [hp, if_pos rfl]
    constructor
    · rintro ⟨i, hi, hs, ht⟩
      have : (d k).toInt = (i : Int) := hs.resolve_left h3
      obtain rfl : i = c k := by omega
      exact ⟨_, List.mem_singleton.mpr rfl, by show wtg f k (c k) = j; omega⟩
    · rintro ⟨p, hp2, e⟩
      rw [List.mem_singleton] at hp2
      subst hp2
      have e : wtg f k (c k) = j := e
      exact ⟨c k, by unfold wys at hcl; omega, Or.inr hck, by omega⟩
theorem g_RC (hG : GS f) {d : Nat → Int32} {c : Nat → Nat} (hd : ∀ k, k < gNo f → gPl f k = true → (d k).toInt = (c k : Int)) (hc : pz_L (gNo f) (gPl f) (gAl f) c) {k : Nat} (hk : k < gNo f) : RC f d k ↔ pz_C (gEn f) (pz_sc (gPl f) (gCh f) (wtg f) c) k := by
  have hn := hG.r.1
  have hok := pz_ok_of (g_N hG) hc
  constructor
  · rintro ⟨m, hm⟩
    induction m generalizing k with
    | zero => exact pz_C_end (by unfold gEn; simp [hm.2])
    | succ m ih =>
      rcases hm with hm | ⟨h1, h2, j, h3, h4⟩
      · exact ih hk hm
      · obtain ⟨p, hp, e⟩ := (g_on hG hd hc hk h2 j).mp h3
        have := (hok k hk (by unfold gEn; simp [h2])).2 p hp
        exact pz_C_step hp (by rw [e]; exact ih (by omega) h4)
  · rintro ⟨m, hm⟩
    induction m generalizing k with
    | zero =>
      have h1 : gEn f k = true := hm
      unfold gEn at h1
      unfold gNo at hk
      exact ⟨0, by omega, by simpa using h1⟩
    | succ m ih =>
      rcases hm with h1 | ⟨p, hp, h2⟩
      · unfold gEn at h1
        unfold gNo at hk
        exact ⟨0, by omega, by simpa using h1⟩
      · by_cases h1 : (f (1 + k)).toInt = 0
        · unfold gNo at hk
          exact ⟨0, by omega, h1⟩
        · have h3 := (hok k hk (by unfold gEn; simp [h1])).2 p hp
          exact RC_closed f d k p.2 (by unfold gNo at hk; omega) h1 ((g_on hG hd hc hk h1 p.2).mpr ⟨p, hp, rfl⟩) (ih h3.2 h2)
theorem g_V (hG : GS f) {d : Nat → Int32} {c : Nat → Nat} (hd : ∀ k, k < gNo f → gPl f k = true → (d k).toInt = (c k : Int)) (hc : pz_L (gNo f) (gPl f) (gAl f) c) {v : Nat → Rat} (h : VAL f d v) : pz_V (gNo f) (gEn f) (gPay f) (gPl f) (gCh f) (wtg f) c v := by
  have ht : ∀ k, gEn f k = true → (f (1 + k)).toInt = 0 := fun k q => by unfold gEn at q; simpa using q
  have hf : ∀ k, gEn f k = false → ¬ (f (1 + k)).toInt = 0 := fun k q => by unfold gEn at q; simpa using q
  refine ⟨fun k hk h1 => h.1 k hk (ht k h1), fun k hk h1 h2 => h.2.1 k hk (hf k h1) (fun z => h2 ((g_RC hG hd hc hk).mp z)), fun k hk h1 h2 => ?_⟩
  have := h.2.2 k hk (hf k h1) ((g_RC hG hd hc hk).mpr h2)
  rw [g_sum hG hd hc hk (hf k h1), g_sum hG hd hc hk (hf k h1)] at this
  exact this
/-- the one worth of a play -/
noncomputable def vof (f : Nat → Int32) (c : Nat → Nat) : Nat → Rat := Classical.epsilon (fun v => VAL f (fun k => Int32.ofInt ((c k % 3 : Nat) : Int)) v)
theorem i32_mod (n : Nat) (h : n < 3) : (Int32.ofInt ((n % 3 : Nat) : Int)).toInt = (n : Int) := by
  rw [Nat.mod_eq_of_lt h]; exact i32_small (by omega)
theorem g_wys (hG : GS f) {k : Nat} (hk : k < gNo f) : wys f k ≤ 3 := by
  have h1 := hG.r.1
  unfold gNo at hk
  have := (hG.r.2.1 k (by omega)).2.2.1
  unfold wys; omega
theorem vof_V (hG : GS f) (c : Nat → Nat) (hc : pz_L (gNo f) (gPl f) (gAl f) c) : pz_V (gNo f) (gEn f) (gPay f) (gPl f) (gCh f) (wtg f) c (vof f c) := by
  have hx := VAL_ex hG (fun k => Int32.ofInt ((c k % 3 : Nat) : Int))
  exact g_V hG (fun k hk hp => i32_mod (c k) (by have := (hc k hk hp).1; have := g_wys hG hk; omega)) hc (Classical.epsilon_spec hx)
theorem vof_eq (hG : GS f) {d : Nat → Int32} {c : Nat → Nat} (hd : ∀ k, k < gNo f → gPl f k = true → (d k).toInt = (c k : Int)) (hc : pz_L (gNo f) (gPl f) (gAl f) c) {v : Nat → Rat} (h : VAL f d v) : ∀ k, k < gNo f → v k = vof f c k := pz_V_uniq (g_N hG) hc (g_V hG hd hc h) (vof_V hG c hc)
end GV
