/-! what a play is worth: it is there, it is one alone, it is none below 0 -/
theorem pm_s_lin {n : Nat} (A : Nat → Nat → Rat) (r : Rat) (y z : Nat → Rat) (i : Nat) : pm_s n A (fun j => r * y j + z j) i = r * pm_s n A y i + pm_s n A z i := by
  unfold pm_s
  rw [← pz_m_lin]
  exact pz_m_congr n (fun j _ => by grind)
theorem EH.nonneg {n : Nat} {A : Nat → Nat → Int} (h : EH n A) (hb : ∀ i, i < n → 0 ≤ A i n) : ∀ i, i < n → 0 ≤ eX A n i n := by
  intro i hi
  refine Int.not_lt.mp fun hlt => ?_
  obtain ⟨z, hz, hz2⟩ := h.x
  obtain ⟨k, hk, hmax⟩ := pz_max (fun j => -((eX A n j n : Int) : Rat) / z j) n (by omega)
  have hr0 : 0 < -((eX A n k n : Int) : Rat) / z k := by
    have h1 := hmax i hi
    have h3 : ((eX A n i n : Int) : Rat) < ((0 : Int) : Rat) := by exact_mod_cast hlt
    rw [show ((0 : Int) : Rat) = 0 from rfl] at h3
    have h4 : 0 < -((eX A n i n : Int) : Rat) := by clear hmax hz hz2 hb h; grind
    have h2 : 0 < -((eX A n i n : Int) : Rat) / z i := pm_div_pos h4 (hz i hi)
    clear hmax hz hz2 hb h
    grind
  generalize hr : -((eX A n k n : Int) : Rat) / z k = r at hr0 hmax
  have hy : ∀ j, j < n → 0 ≤ r * z j + ((eX A n j n : Int) : Rat) := fun j hj => by
    have h1 := hmax j hj
    have h2 := hz j hj
    have h3 := Rat.mul_le_mul_of_nonneg_right (c := z j) h1 (by grind)
    have h4 : -((eX A n j n : Int) : Rat) / z j * z j = -((eX A n j n : Int) : Rat) := Rat.div_mul_cancel (by grind)
    grind
  have hyk : r * z k + ((eX A n k n : Int) : Rat) = 0 := by
    have h2 := hz k hk
    have h4 : -((eX A n k n : Int) : Rat) / z k * z k = -((eX A n k n : Int) : Rat) := Rat.div_mul_cancel (by grind)
    rw [hr] at h4
    grind
  have hs := pm_s_lin (n := n) (eA A) r z (fun j => ((eX A n j n : Int) : Rat)) k
  rw [h.solved k hk] at hs
  have h5 := hz2 k hk
  have h6 : 0 ≤ ((eb A n : Int) : Rat) * eA A k n := Rat.mul_nonneg (by exact_mod_cast (by have := h.bpos (c := n) (Nat.le_refl _); omega : 0 ≤ eb A n)) (by show (0 : Rat) ≤ ((A k n : Int) : Rat); exact_mod_cast hb k hk)
  have h7 : 0 < r * pm_s n (eA A) z k := Rat.mul_pos hr0 h5
  have h8 : pm_s n (eA A) (fun j => r * z j + ((eX A n j n : Int) : Rat)) k ≤ 0 := by
    have := pz_m_le (u := fun j => eA A k j * (r * z j + ((eX A n j n : Int) : Rat))) (v := fun _ => 0) n (fun j hj => by
      by_cases q : k = j
      · subst q; rw [hyk, Rat.mul_zero]; exact Rat.le_refl
      · have a1 := h.pO k j hk hj q
        have a2 := hy j hj
        have := Rat.mul_nonneg (show 0 ≤ -(eA A k j) by grind) a2
        grind)
    rw [pz_m_zero (u := fun _ => 0) (fun _ _ => rfl)] at this
    exact this
  grind
def VAL (f c : Nat → Int32) (v : Nat → Rat) : Prop :=
  (∀ k, k < (f 0).toInt.toNat → (f (1 + k)).toInt = 0 → v k = (((f (13 + k)).toInt : Int) : Rat)) ∧ (∀ k, k < (f 0).toInt.toNat → ¬ (f (1 + k)).toInt = 0 → ¬ RC f c k → v k = 0) ∧
  ∀ k, k < (f 0).toInt.toNat → ¬ (f (1 + k)).toInt = 0 → RC f c k → gsR f c k (fun _ => 1) (wys f k) * v k = gsR f c k v (wys f k)
/-- what is laid ahead of the solving: pays at ends -/
def upay (f : Nat → Int32) : Nat → Int := fun t => if (f (1 + t)).toInt = 0 then (f (13 + t)).toInt else 0
section VS
variable {f c w : Nat → Int32} {N : Nat} {A : Nat → Nat → Int}
theorem MAT_VAL {u : Nat → Int} (hG : GS f) (hR : RWI f c w (f 0).toInt.toNat N) (hM : MAT f c w N 1 1 0 u (f 0).toInt.toNat A) (hu : ∀ t, t < (f 0).toInt.toNat → u t = upay f t) :
    VAL f c (fun t => if 0 ≤ (w t).toInt then ((eX A N (w t).toInt.toNat N : Int) : Rat) / ((eb A N : Int) : Rat) else ((u t : Int) : Rat)) := by
  have h0 := hG.r.1
  have hE := MAT_EH hG hR hM (by omega) (by omega)
  have hb : (0 : Rat) < ((eb A N : Int) : Rat) := by exact_mod_cast hE.bpos (Nat.le_refl _)
  refine ⟨fun k hk h1 => ?_, fun k hk h1 h2 => ?_, fun k hk h1 h2 => ?_⟩
  · have := (hR.1 k hk).1
    show (if 0 ≤ (w k).toInt then _ else _) = _
    rw [if_neg (fun z => (this.mp z).1 h1), hu k hk]
    unfold upay
    rw [if_pos h1]
  · have := (hR.1 k hk).1
    show (if 0 ≤ (w k).toInt then _ else _) = _
    rw [if_neg (fun z => h2 (this.mp z).2), hu k hk]
    unfold upay
    rw [if_neg h1]; rfl
  · have hw := (hR.1 k hk).1.mpr ⟨h1, h2⟩
    have hwN := (hR.1 k hk).2
    have hs := hE.solved (w k).toInt.toNat (by omega)
    rw [MAT_sum hG hR hM hk (i := (w k).toInt.toNat) (by omega)] at hs
    have hA := hM k hk hw N (Nat.le_refl _)
    unfold arow at hA
    rw [if_pos rfl, Int.zero_mul, Int.add_zero, Int.one_mul] at hA
    have hAR : eA A (w k).toInt.toNat N = gsR f c k (fun t => ((if (w t).toInt < 0 then u t else 0 : Int) : Rat)) (wys f k) := by
      show ((A _ N : Int) : Rat) = _
      rw [hA, gsR_cast]
    rw [hAR, show ((1 : Int) : Rat) = 1 from rfl] at hs
    have hl := gsR_lin (f := f) (c := c) (k := k) (1 / ((eb A N : Int) : Rat)) (Yw w (fun j => ((eX A N j N : Int) : Rat))) (fun t => ((if (w t).toInt < 0 then u t else 0 : Int) : Rat)) (wys f k)
    show gsR f c k (fun _ => 1) (wys f k) * (if 0 ≤ (w k).toInt then ((eX A N (w k).toInt.toNat N : Int) : Rat) / ((eb A N : Int) : Rat) else ((u k : Int) : Rat)) = _
    rw [gsR_congr (f := f) (c := c) (k := k) (u := fun t => if 0 ≤ (w t).toInt then ((eX A N (w t).toInt.toNat N : Int) : Rat) / ((eb A N : Int) : Rat) else ((u t : Int) : Rat)) (v := fun t => 1 / ((eb A N : Int) : Rat) * Yw w (fun j => ((eX A N j N : Int) : Rat)) t + ((if (w t).toInt < 0 then u t else 0 : Int) : Rat)) (wys f k) (fun i hi _ => by
      unfold Yw
      dsimp only
      by_cases q : 0 ≤ (w (wtg f k i)).toInt
      · rw [if_pos q, if_pos q, if_neg (by omega), show ((0 : Int) : Rat) = 0 from rfl]; grind
      · rw [if_neg q, if_neg q, if_pos (by omega)]; grind), hl, if_pos hw]
    generalize gsR f c k (Yw w (fun j => ((eX A N j N : Int) : Rat))) (wys f k) = Z at hs ⊢
    generalize gsR f c k (fun t => ((if (w t).toInt < 0 then u t else 0 : Int) : Rat)) (wys f k) = X at hs ⊢
    generalize gsR f c k (fun _ => 1) (wys f k) = all at hs ⊢
    generalize ((eX A N (w k).toInt.toNat N : Int) : Rat) = x at hs ⊢
    generalize ((eb A N : Int) : Rat) = B at hb hs ⊢
    have e1 : all * (x / B) = (all * x) / B := by grind
    have e2 : (B * X) / B = X := by rw [Rat.mul_comm]; exact Rat.mul_div_cancel (by grind)
    have e3 : all * x = Z + B * X := by grind
    rw [e1, e3]
    grind
theorem i32_small {N : Nat} (h : N ≤ 12) : (Int32.ofInt (N : Int)).toInt = (N : Int) := by
  rcases (show N = 0 ∨ N = 1 ∨ N = 2 ∨ N = 3 ∨ N = 4 ∨ N = 5 ∨ N = 6 ∨ N = 7 ∨ N = 8 ∨ N = 9 ∨ N = 10 ∨ N = 11 ∨ N = 12 by omega) with rfl | rfl | rfl | rfl | rfl | rfl | rfl | rfl | rfl | rfl | rfl | rfl | rfl <;> decide
theorem RWI_ex (f c : Nat → Int32) : ∀ m, m ≤ 12 → ∃ (w : Nat → Int32) (N : Nat), RWI f c w m N
  | 0, _ => ⟨fun _ => 0, 0, RWI_zero f c _⟩
  | m + 1, hm => by
    obtain ⟨w, N, h⟩ := RWI_ex f c m (by omega)
    have hN := h.2.2.2.1
    by_cases q : rwS f c m
    · exact ⟨upd w m (Int32.ofInt (N : Int)), N + 1, RWI_row h (fun k hk => upd_ne _ _ (by omega)) (by rw [upd_at]; exact i32_small (by omega)) q rfl rfl⟩
    · exact ⟨upd w m (-1), N, RWI_not h (fun k hk => upd_ne _ _ (by omega)) (by rw [upd_at]; decide) q rfl⟩
theorem VAL_ex (hG : GS f) (c : Nat → Int32) : ∃ v, VAL f c v := by
  have h0 := hG.r.1
  obtain ⟨w, N, hR⟩ := RWI_ex f c (f 0).toInt.toNat (by omega)
  have hA : ∃ A : Nat → Nat → Int, MAT f c w N 1 1 0 (upay f) (f 0).toInt.toNat A := by
    have hx : ∀ j, ∃ r : Nat, j < N → r < (f 0).toInt.toNat ∧ (w r).toInt = (j : Int) := fun j => by
      by_cases q : j < N
      · obtain ⟨k, hk, e1⟩ := hR.2.1 j q
        exact ⟨k, fun _ => ⟨hk, e1⟩⟩
      · exact ⟨0, fun z => absurd z q⟩
    refine ⟨fun i j => arow f c w N 1 1 0 (upay f) (hx i).choose j, fun k hk hw j hj => ?_⟩
    have h1 := (hR.1 k hk).2
    obtain ⟨h2, h3⟩ := (hx (w k).toInt.toNat).choose_spec (by omega)
    show arow f c w N 1 1 0 (upay f) (hx (w k).toInt.toNat).choose j = _
    rw [hR.2.2.1 _ _ h2 hk (by omega) (by omega)]
  obtain ⟨A, hM⟩ := hA
  exact ⟨_, MAT_VAL hG hR hM (fun _ _ => rfl)⟩
end VS
section PU
variable {n : Nat} {en : Nat → Bool} {pay : Nat → Rat} {pl mx : Nat → Bool} {ch : Nat → List (Nat × Nat)} {to : Nat → Nat → Nat} {al : Nat → Nat → Prop}
theorem pz_V_uniq (hN : pz_N n en pay pl mx ch to al) {c : Nat → Nat} (hc : pz_L n pl al c) {v v' : Nat → Rat} (hv : pz_V n en pay pl ch to c v) (hv' : pz_V n en pay pl ch to c v') : ∀ k, k < n → v k = v' k := by
  have H : ∀ v v' : Nat → Rat, pz_V n en pay pl ch to c v → pz_V n en pay pl ch to c v' → ∀ k, k < n → v k - v' k ≤ 0 := fun v v' hv hv' => pz_prin (pz_ok_of hN hc) (u := fun k => v k - v' k) (fun k hk h => by
    by_cases q : en k = true
    · rw [hv.1 k hk q, hv'.1 k hk q]; grind
    · have q' : en k = false := by simpa using q
      have h2 : ¬ pz_C en (pz_sc pl ch to c) k := h.resolve_left q
      rw [hv.2.1 k hk q' h2, hv'.2.1 k hk q' h2]; grind) (fun k hk h1 h2 => by
    have e1 := hv.2.2 k hk h1 h2
    have e2 := hv'.2.2 k hk h1 h2
    rw [pz_s_sub]
    grind)
  intro k hk
  have h1 := H v v' hv hv' k hk
  have h2 := H v' v hv' hv k hk
  grind
end PU
/-! the game of a row, for the rows of 00 to 02 -/
def gEn (f : Nat → Int32) (k : Nat) : Bool := decide ((f (1 + k)).toInt = 0)
def gPay (f : Nat → Int32) (k : Nat) : Rat := (((f (13 + k)).toInt : Int) : Rat)
def gPl (f : Nat → Int32) (k : Nat) : Bool := decide ((f (1 + k)).toInt = 1 ∨ (f (1 + k)).toInt = 2)
def gMx (f : Nat → Int32) (k : Nat) : Bool := decide ((f (1 + k)).toInt = 1)
def gCh (f : Nat → Int32) (k : Nat) : List (Nat × Nat) := (List.range (wys f k)).map (fun i => ((wwt f k i).toNat, wtg f k i))
def gAl (f : Nat → Int32) (k i : Nat) : Prop := i < wys f k ∧ ((f (109 + k)).toInt < 0 ∨ (f (109 + k)).toInt = (i : Int))
def gNo (f : Nat → Int32) : Nat := (f 0).toInt.toNat
section GV
variable {f : Nat → Int32}
theorem g_N (hG : GS f) : pz_N (gNo f) (gEn f) (gPay f) (gPl f) (gMx f) (gCh f) (wtg f) (gAl f) := by
  have h0 := hG.r.1
  refine ⟨fun k hk h1 h2 => ?_, fun k hk i h1 h2 => ?_, fun k hk h1 => ?_, fun k h1 => ?_⟩
  · unfold gNo at hk
    have hk0 : ¬ (f (1 + k)).toInt = 0 := by unfold gEn at h1; simpa using h1
    have hw := hG.2 k (by omega) hk0
    refine ⟨?_, fun p hp => ?_⟩
    · unfold gCh
      intro e
      have := congrArg List.length e
      rw [List.length_map, List.length_range] at this
      have h9 : wys f k = 0 := this
      unfold wys at h9
      omega
    · unfold gCh at hp
      obtain ⟨i, hi, rfl⟩ := List.mem_map.mp hp
      have h3 := gs_w1 hG (k := k) (by omega) (List.mem_range.mp hi)
      unfold gNo
      exact ⟨by show 0 < (wwt f k i).toNat; omega, by show wtg f k i < _; omega⟩
  · unfold gNo at hk
    have h3 := gs_w1 hG (k := k) (by omega) h2.1
    unfold gNo; omega
  · unfold gNo at hk
    have := ((hG.r.2.1 k (by omega)).2.1).1
    unfold gPay; exact_mod_cast this
  · unfold gMx at h1; unfold gPl
    have : (f (1 + k)).toInt = 1 := by simpa using h1
    simp [this]
theorem gsR_chance {c : Nat → Int32} {k : Nat} (h3 : (f (1 + k)).toInt = 3) (v : Nat → Rat) : ∀ m, (∀ i, i < m → 0 ≤ wwt f k i) → gsR f c k v m = pz_s ((List.range m).map (fun i => ((wwt f k i).toNat, wtg f k i))) v
  | 0, _ => rfl
  | m + 1, h => by
    have app : ∀ (l : List (Nat × Nat)) (p : Nat × Nat), pz_s (l ++ [p]) v = pz_s l v + (p.1 : Rat) * v p.2 := fun l p => by
      induction l with
      | nil => show (p.1 : Rat) * v p.2 + 0 = 0 + _; grind
      | cons q l ih => show (q.1 : Rat) * v q.2 + pz_s (l ++ [p]) v = _; rw [ih]; show _ = (q.1 : Rat) * v q.2 + pz_s l v + _; grind
    rw [List.range_succ, List.map_append]
    show gsR f c k v m + _ = pz_s (_ ++ [((wwt f k m).toNat, wtg f k m)]) v
    rw [app, gsR_chance h3 v m (fun i hi => h i (by omega)), if_pos (Or.inl h3)]
    have e : ((wwt f k m : Int) : Rat) = (((wwt f k m).toNat : Nat) : Rat) := by
      have := h m (by omega)
      obtain ⟨n, hn⟩ := Int.eq_ofNat_of_zero_le this
      rw [hn]; rfl
    rw [e]
theorem gsR_player {c : Nat → Int32} {k i : Nat} (h3 : ¬ (f (1 + k)).toInt = 3) (hc : (c k).toInt = (i : Int)) (v : Nat → Rat) : ∀ m, gsR f c k v m = if i < m then v (wtg f k i) else 0
  | 0 => by rw [if_neg (by omega)]; rfl
  | m + 1 => by
    show gsR f c k v m + _ = _
    rw [gsR_player h3 hc v m]
    by_cases q : i = m
    · subst q
      rw [if_neg (by omega), if_pos (Or.inr hc), if_pos (by omega)]
      unfold wwt
      rw [if_neg h3, show ((1 : Int) : Rat) = 1 from rfl]; grind
    · have q2 : ¬ wsel f c k m := fun z => by rcases z with z | z; exact h3 z; omega
      rw [if_neg q2]
      by_cases q3 : i < m
      · rw [if_pos q3, if_pos (by omega)]; grind
      · rw [if_neg q3, if_neg (by omega)]; grind
theorem g_pl (hG : GS f) {k : Nat} (hk : k < gNo f) (h0 : ¬ (f (1 + k)).toInt = 0) (h3 : ¬ (f (1 + k)).toInt = 3) : gPl f k = true := by
  have h1 := hG.r.1
  unfold gNo at hk
  have := (hG.r.2.1 k (by omega)).1
  unfold gPl
  have : (f (1 + k)).toInt = 1 ∨ (f (1 + k)).toInt = 2 := by omega
  simp [this]
theorem g_pl3 {k : Nat} (h3 : (f (1 + k)).toInt = 3) : gPl f k = false := by unfold gPl; simp [h3]
theorem g_sum (hG : GS f) {d : Nat → Int32} {c : Nat → Nat} (hd : ∀ k, k < gNo f → gPl f k = true → (d k).toInt = (c k : Int)) (hc : pz_L (gNo f) (gPl f) (gAl f) c) {k : Nat} (hk : k < gNo f) (h0 : ¬ (f (1 + k)).toInt = 0) (v : Nat → Rat) : gsR f d k v (wys f k) = pz_s (pz_sc (gPl f) (gCh f) (wtg f) c k) v := by
  have hn := hG.r.1
  have hk12 : k < 12 := by unfold gNo at hk; omega
  unfold pz_sc
  by_cases h3 : (f (1 + k)).toInt = 3
  · rw [g_pl3 h3, if_neg (by decide)]
    exact gsR_chance h3 v _ (gs_wn hG hk12)
  · have hp := g_pl hG hk h0 h3
    rw [hp, if_pos rfl, gsR_player h3 (hd k hk hp) v, if_pos (hc k hk hp).1]
    show _ = ((1 : Nat) : Rat) * v (wtg f k (c k)) + 0
    rw [show ((1 : Nat) : Rat) = 1 from rfl]; grind
theorem g_on (hG : GS f) {d : Nat → Int32} {c : Nat → Nat} (hd : ∀ k, k < gNo f → gPl f k = true → (d k).toInt = (c k : Int)) (hc : pz_L (gNo f) (gPl f) (gAl f) c) {k : Nat} (hk : k < gNo f) (h0 : ¬ (f (1 + k)).toInt = 0) (j : Nat) : ON f d k j ↔ ∃ p, p ∈ pz_sc (gPl f) (gCh f) (wtg f) c k ∧ p.2 = j := by
  have hn := hG.r.1
  have hk12 : k < 12 := by unfold gNo at hk; omega
  have hw := (hG.r.2.1 k hk12).2.2.1
  unfold pz_sc ON
  by_cases h3 : (f (1 + k)).toInt = 3
  · rw [g_pl3 h3, if_neg (by decide)]
    unfold gCh
    constructor
    · rintro ⟨i, hi, _, ht⟩
      exact ⟨_, List.mem_map.mpr ⟨i, List.mem_range.mpr (by unfold wys; omega), rfl⟩, by show wtg f k i = j; unfold wtg; omega⟩
    · rintro ⟨p, hp, e⟩
      obtain ⟨i, hi, rfl⟩ := List.mem_map.mp hp
      have hi := List.mem_range.mp hi
      have h4 := (gs_w1 hG hk12 hi).2.2.2
      have e : wtg f k i = j := e
      exact ⟨i, by unfold wys at hi; omega, Or.inl h3, by omega⟩
  · have hp := g_pl hG hk h0 h3
    have hck := hd k hk hp
    have hcl := (hc k hk hp).1
    have h4 := (gs_w1 hG hk12 hcl).2.2.2
    rw [hp, if_pos rfl]
    constructor
    · rintro ⟨i, hi, hs, ht⟩
      have : (d k).toInt = (i : Int) := hs.resolve_left h3
      obtain rfl : i = c k := by omega
      exact ⟨_, List.mem_singleton.mpr rfl, by show wtg f k (c k) = j; omega⟩
    · rintro ⟨p, hp2, e⟩
      rw [List.mem_singleton] at hp2
      subst hp2
      have e : wtg f k (c k) = j := e
      exact ⟨c k, by unfold wys at hcl; omega, Or.inr hck, by omega⟩
theorem g_RC (hG : GS f) {d : Nat → Int32} {c : Nat → Nat} (hd : ∀ k, k < gNo f → gPl f k = true → (d k).toInt = (c k : Int)) (hc : pz_L (gNo f) (gPl f) (gAl f) c) {k : Nat} (hk : k < gNo f) : RC f d k ↔ pz_C (gEn f) (pz_sc (gPl f) (gCh f) (wtg f) c) k := by
  have hn := hG.r.1
  have hok := pz_ok_of (g_N hG) hc
  constructor
  · rintro ⟨m, hm⟩
    induction m generalizing k with
    | zero => exact pz_C_end (by unfold gEn; simp [hm.2])
    | succ m ih =>
      rcases hm with hm | ⟨h1, h2, j, h3, h4⟩
      · exact ih hk hm
      · obtain ⟨p, hp, e⟩ := (g_on hG hd hc hk h2 j).mp h3
        have := (hok k hk (by unfold gEn; simp [h2])).2 p hp
        exact pz_C_step hp (by rw [e]; exact ih (by omega) h4)
  · rintro ⟨m, hm⟩
    induction m generalizing k with
    | zero =>
      have h1 : gEn f k = true := hm
      unfold gEn at h1
      unfold gNo at hk
      exact ⟨0, by omega, by simpa using h1⟩
    | succ m ih =>
      rcases hm with h1 | ⟨p, hp, h2⟩
      · unfold gEn at h1
        unfold gNo at hk
        exact ⟨0, by omega, by simpa using h1⟩
      · by_cases h1 : (f (1 + k)).toInt = 0
        · unfold gNo at hk
          exact ⟨0, by omega, h1⟩
        · have h3 := (hok k hk (by unfold gEn; simp [h1])).2 p hp
          exact RC_closed f d k p.2 (by unfold gNo at hk; omega) h1 ((g_on hG hd hc hk h1 p.2).mpr ⟨p, hp, rfl⟩) (ih h3.2 h2)
theorem g_V (hG : GS f) {d : Nat → Int32} {c : Nat → Nat} (hd : ∀ k, k < gNo f → gPl f k = true → (d k).toInt = (c k : Int)) (hc : pz_L (gNo f) (gPl f) (gAl f) c) {v : Nat → Rat} (h : VAL f d v) : pz_V (gNo f) (gEn f) (gPay f) (gPl f) (gCh f) (wtg f) c v := by
  have ht : ∀ k, gEn f k = true → (f (1 + k)).toInt = 0 := fun k q => by unfold gEn at q; simpa using q
  have hf : ∀ k, gEn f k = false → ¬ (f (1 + k)).toInt = 0 := fun k q => by unfold gEn at q; simpa using q
  refine ⟨fun k hk h1 => h.1 k hk (ht k h1), fun k hk h1 h2 => h.2.1 k hk (hf k h1) (fun z => h2 ((g_RC hG hd hc hk).mp z)), fun k hk h1 h2 => ?_⟩
  have := h.2.2 k hk (hf k h1) ((g_RC hG hd hc hk).mpr h2)
  rw [g_sum hG hd hc hk (hf k h1), g_sum hG hd hc hk (hf k h1)] at this
  exact this
/-- the one worth of a play -/
noncomputable def vof (f : Nat → Int32) (c : Nat → Nat) : Nat → Rat := Classical.epsilon (fun v => VAL f (fun k => Int32.ofInt ((c k % 3 : Nat) : Int)) v)
theorem i32_mod (n : Nat) (h : n < 3) : (Int32.ofInt ((n % 3 : Nat) : Int)).toInt = (n : Int) := by
  rw [Nat.mod_eq_of_lt h]; exact i32_small (by omega)
theorem g_wys (hG : GS f) {k : Nat} (hk : k < gNo f) : wys f k ≤ 3 := by
  have h1 := hG.r.1
  unfold gNo at hk
  have := (hG.r.2.1 k (by omega)).2.2.1
  unfold wys; omega
theorem vof_V (hG : GS f) (c : Nat → Nat) (hc : pz_L (gNo f) (gPl f) (gAl f) c) : pz_V (gNo f) (gEn f) (gPay f) (gPl f) (gCh f) (wtg f) c (vof f c) := by
  have hx := VAL_ex hG (fun k => Int32.ofInt ((c k % 3 : Nat) : Int))
  exact g_V hG (fun k hk hp => i32_mod (c k) (by have := (hc k hk hp).1; have := g_wys hG hk; omega)) hc (Classical.epsilon_spec hx)
theorem vof_eq (hG : GS f) {d : Nat → Int32} {c : Nat → Nat} (hd : ∀ k, k < gNo f → gPl f k = true → (d k).toInt = (c k : Int)) (hc : pz_L (gNo f) (gPl f) (gAl f) c) {v : Nat → Rat} (h : VAL f d v) : ∀ k, k < gNo f → v k = vof f c k := pz_V_uniq (g_N hG) hc (g_V hG hd hc h) (vof_V hG c hc)
end GV
/-! laying fractions; the rows' filling -/
theorem tl_ne0 {b : Int64} (h : ¬ b.toInt = 0) : ¬ b = 0 := fun e => h (by rw [e]; decide)
theorem tl_i2l {x : Int32} {w : Int64} (h : w = x.toInt64) : w.toInt = x.toInt := by rw [h]; exact Int32.toInt_toInt64 x
theorem tl_cmpneg {w : Int64} {v : Int32} (hv : v = lg_cmp w 0) (h : ¬ 0 ≤ v) : w.toInt < 0 := by
  rw [hv] at h
  unfold lg_cmp at h
  by_cases q : w > 0
  · rw [if_pos q] at h; exact absurd (by decide) h
  · rw [if_neg q] at h
    by_cases q2 : w = 0
    · rw [if_pos q2] at h; exact absurd (by decide) h
    · have h3 : ¬ (0 : Int64).toInt < w.toInt := fun z => q (Int64.lt_iff_toInt_lt.mpr z)
      have h4 : ¬ w.toInt = 0 := tl_nz0 q2
      have h5 : (0 : Int64).toInt = 0 := by decide
      omega
def LYS (u l u' l' : Nat → Int64) (k : Nat) (a b : Int) : Prop := (∀ j, j ≠ k → u' j = u j ∧ l' j = l j) ∧ (0 ≤ a → (u' k).toInt * b = (l' k).toInt * a ∧ 0 < (l' k).toInt ∧ (l' k).toInt ≤ b ∧ 0 ≤ (u' k).toInt ∧ (u' k).toInt ≤ a ∧ (l' k).toInt ∣ b)
theorem tl_divx {x a d : Int64} (h : x = a / d) (hd : 0 < d.toInt) (ha : 0 ≤ a.toInt) (hv : d.toInt ∣ a.toInt) : x.toInt * d.toInt = a.toInt ∧ 0 ≤ x.toInt ∧ x.toInt ≤ a.toInt := by
  obtain ⟨q, hq⟩ := hv
  have h1 := tl_any a
  have hq0 : 0 ≤ q := by
    refine Int.not_lt.mp fun z => ?_
    have := Int.mul_le_mul_of_nonneg_left (show q ≤ -1 by omega) (show 0 ≤ d.toInt by omega)
    omega
  have hqa : q ≤ a.toInt := by
    have := Int.mul_le_mul_of_nonneg_right (show 1 ≤ d.toInt by omega) hq0
    omega
  have e : x.toInt = q := by rw [h]; exact tl_div (q := q) (by rw [hq, Int.mul_comm]) (by omega) (by omega) (by omega)
  rw [e]
  exact ⟨by rw [hq, Int.mul_comm], hq0, hqa⟩
theorem LYS_of {u l u' l' : Nat → Int64} {k : Nat} {a b d x y : Int64} (hd : ¬ d.toInt = 0 ∧ d.toInt ∣ a.toInt ∧ d.toInt ∣ b.toInt ∧ (0 ≤ a.toInt → 0 < d.toInt)) (hx : x = a / d) (hy : y = b / d) (hu : u' = fun j9 => if j9 = k then x else u j9) (hl : l' = fun j9 => if j9 = k then y else l j9) (hb : 0 < b.toInt) : LYS u l u' l' k a.toInt b.toInt := by
  subst hu hl
  refine ⟨fun j hj => ⟨if_neg hj, if_neg hj⟩, fun ha => ?_⟩
  have hdp := hd.2.2.2 ha
  obtain ⟨x1, x2, x3⟩ := tl_divx hx hdp ha hd.2.1
  obtain ⟨y1, y2, y3⟩ := tl_divx hy hdp (by omega) hd.2.2.1
  show (if k = k then x else u k).toInt * _ = (if k = k then y else l k).toInt * _ ∧ 0 < (if k = k then y else l k).toInt ∧ (if k = k then y else l k).toInt ≤ _ ∧ 0 ≤ (if k = k then x else u k).toInt ∧ (if k = k then x else u k).toInt ≤ _ ∧ (if k = k then y else l k).toInt ∣ _
  rw [if_pos rfl, if_pos rfl]
  have hy0 : 0 < y.toInt := by
    refine Int.not_le.mp fun z => ?_
    have e0 : y.toInt = 0 := by omega
    rw [e0, Int.zero_mul] at y1
    omega
  refine ⟨?_, hy0, y3, x2, x3, ⟨d.toInt, y1.symm⟩⟩
  rw [← y1, ← x1, Int.mul_left_comm]
/-- whole numbers laid as fractions by 1 -/
def UPA (g : Nat → Int) (u l : Nat → Int64) (m : Nat) : Prop := ∀ t, t < m → (u t).toInt = g t ∧ (l t).toInt = 1
theorem UPA_zero {g : Nat → Int} {u l : Nat → Int64} : UPA g u l 0 := fun t h => absurd h (by omega)
theorem UPA_next {g : Nat → Int} {u l u' l' : Nat → Int64} {m m2 : Nat} {a b : Int} (h : UPA g u l m) (hL : LYS u l u' l' m a b) (hb : b = 1) (ha : a = g m) (h0 : 0 ≤ a) (hm : m2 = m + 1) : UPA g u' l' m2 := by
  subst hm hb
  intro t ht
  by_cases e : t = m
  · subst e
    obtain ⟨h1, h2, h3, _⟩ := hL.2 h0
    have h4 : (l' t).toInt = 1 := by omega
    rw [h4] at h1
    exact ⟨by omega, h4⟩
  · rw [(hL.1 t e).1, (hL.1 t e).2]; exact h t (by omega)
theorem upay_end {f : Nat → Int32} {k : Nat} {w : Int64} {x : Int32} (hw : w = x.toInt64) (hx : x = f (13 + k)) (h : (f (1 + k)).toInt = 0) : w.toInt = upay f k := by
  rw [tl_i2l hw, hx]; unfold upay; rw [if_pos h]
theorem upay_not {f : Nat → Int32} {k : Nat} (h : ¬ (f (1 + k)).toInt = 0) : (0 : Int64).toInt = upay f k := by unfold upay; rw [if_neg h]; decide
theorem upay_rng {f : Nat → Int32} (hG : GS f) {t : Nat} (ht : t < (f 0).toInt.toNat) : 0 ≤ upay f t ∧ upay f t ≤ 9 := by
  have h0 := hG.r.1
  have := (hG.r.2.1 t (by omega)).2.1
  unfold upay
  split <;> omega
theorem zero_rng {n : Nat} : ∀ t, t < n → (0 : Int) ≤ (fun _ : Nat => (0 : Int)) t ∧ (fun _ : Nat => (0 : Int)) t ≤ 9 := fun _ _ => ⟨Int.le_refl _, (by decide : (0 : Int) ≤ 9)⟩
theorem RWI_notU {f c w v : Nat → Int32} {m m2 N N2 : Nat} {x : Int32} (h : RWI f c w m N) (hv : v = upd w m x) (hx : x.toInt = -1) (hS : ¬ rwS f c m) (hm : m2 = m + 1) (hN : N2 = N) : RWI f c v m2 N2 := by
  subst hv hN
  exact RWI_not h (fun k hk => upd_ne _ _ (by omega)) (by rw [upd_at]; exact hx) hS hm
theorem RWI_rowU {f c w v1 v : Nat → Int32} {m m2 N N2 : Nat} {x y : Int32} (h : RWI f c w m N) (hv1 : v1 = upd w m y) (hv : v = upd v1 m x) (hx : x.toInt = (N : Int)) (hS : rwS f c m) (hm : m2 = m + 1) (hN : N2 = N + 1) : RWI f c v m2 N2 := by
  subst hv hv1
  exact RWI_row h (fun k hk => by rw [upd_ne _ _ (by omega), upd_ne _ _ (by omega)]) (by rw [upd_at]; exact hx) hS hm hN
section FI
variable {f c w : Nat → Int32} {N K R : Nat} {a b e : Int} {u : Nat → Int} {ct ct2 ct3 ct4 : Nat → Nat → Int64}
theorem MAT_zero {A : Nat → Nat → Int} : MAT f c w N a b e u 0 A := fun k h => absurd h (by omega)
/-- another row's change leaves the rows before it -/
theorem MAT_tup (hR : RWI f c w (f 0).toInt.toNat N) (h : MAT f c w N a b e u K (tI ct)) {J : Nat} {z : Int64} (g : ct2 = tup ct R J z) (hK : K < (f 0).toInt.toNat) (hw : (w K).toInt = (R : Int)) : MAT f c w N a b e u K (tI ct2) := by
  intro k hk hwk j hj
  subst g
  show (tup ct R J z (w k).toInt.toNat j).toInt = _
  rw [tup_ne _ _ (Or.inl (fun z2 => by have := hR.2.2.1 k K (by omega) hK (by omega) hwk; omega))]
  exact h k hk hwk j hj
theorem MAT_next (h : MAT f c w N a b e u K (tI ct)) {K2 : Nat} (hw : 0 ≤ (w K).toInt → ∀ j, j ≤ N → (ct (w K).toInt.toNat j).toInt = arow f c w N a b e u K j) (hK : K2 = K + 1) : MAT f c w N a b e u K2 (tI ct) := by
  subst hK
  intro k hk hwk j hj
  by_cases q : k = K
  · subst q; exact hw hwk j hj
  · exact h k (by omega) hwk j hj
theorem ZRO_next {J J2 : Nat} {z : Int64} (h : ∀ j, j < J → (ct R j).toInt = 0) (g : ct2 = tup ct R J z) (hz : z.toInt = 0) (hJ : J2 = J + 1) : ∀ j, j < J2 → (ct2 R j).toInt = 0 := by
  subst g hJ
  intro j hj
  by_cases q : j = J
  · subst q; rw [tup_at]; exact hz
  · rw [tup_ne _ _ (Or.inr q)]; exact h j (by omega)
/-- a row half filled -/
def PRT (f c w : Nat → Int32) (N : Nat) (b : Int) (u : Nat → Int) (k i : Nat) (r : Nat → Int64) : Prop := ∀ j, j ≤ N → (r j).toInt = if j = N then b * gsm f c k (fun t => if (w t).toInt < 0 then u t else 0) i else -(b * gsm f c k (fun t => if (w t).toInt = (j : Int) then 1 else 0) i)
theorem PRT_start {J : Nat} {r : Nat → Int64} (h : ∀ j, j < J → (r j).toInt = 0) (hJ : N < J) : PRT f c w N b u K 0 r := by
  intro j hj
  rw [h j (by omega)]
  show 0 = if j = N then b * 0 else -(b * 0)
  rw [Int.mul_zero]; split <;> rfl
theorem gsm_sel {k i : Nat} {u : Nat → Int} (h : wsel f c k i) : gsm f c k u (i + 1) = gsm f c k u i + wwt f k i * u (wtg f k i) := by
  show gsm f c k u i + _ = _; rw [if_pos h]
theorem gsm_not {k i : Nat} {u : Nat → Int} (h : ¬ wsel f c k i) : gsm f c k u (i + 1) = gsm f c k u i := by
  show gsm f c k u i + _ = _; rw [if_neg h]; omega
theorem PRT_skip {i i2 : Nat} {r : Nat → Int64} (h : PRT f c w N b u K i r) (hs : ¬ wsel f c K i) (hi : i2 = i + 1) : PRT f c w N b u K i2 r := by
  subst hi
  intro j hj
  rw [h j hj, gsm_not hs, gsm_not hs]
theorem gsm_bd (hG : GS f) {k : Nat} (hk : k < 12) {u : Nat → Int} (hu : ∀ t, t < (f 0).toInt.toNat → 0 ≤ u t ∧ u t ≤ 9) : ∀ i, i ≤ wys f k → 0 ≤ gsm f c k u i ∧ gsm f c k u i ≤ 27 * i
  | 0, _ => by show (0 : Int) ≤ 0 ∧ (0 : Int) ≤ 27 * (0 : Nat); omega
  | i + 1, hi => by
    have ih := gsm_bd hG hk hu i (by omega)
    by_cases q : wsel f c k i
    · rw [gsm_sel q]
      have h1 := gs_w1 hG hk (show i < wys f k by omega)
      have h2 := hu (wtg f k i) (by omega)
      have h3 := Int.mul_nonneg (show 0 ≤ wwt f k i by omega) h2.1
      have h4 : wwt f k i * u (wtg f k i) ≤ 3 * 9 := Int.mul_le_mul h1.2.1 h2.2 h2.1 (by omega)
      omega
    · rw [gsm_not q]; omega
theorem gsm_b (hG : GS f) {k : Nat} (hk : k < 12) {u : Nat → Int} (hu : ∀ t, t < (f 0).toInt.toNat → 0 ≤ u t ∧ u t ≤ 9) {i : Nat} (hi : i ≤ wys f k) {b : Int} (hb : 0 ≤ b ∧ b ≤ 5) : 0 ≤ b * gsm f c k u i ∧ b * gsm f c k u i ≤ 405 := by
  have h1 := gsm_bd (c := c) hG hk hu i hi
  have h2 : wys f k ≤ 3 := by have := (hG.r.2.1 k hk).2.2.1; unfold wys; omega
  have h3 : b * gsm f c k u i ≤ 5 * 81 := Int.mul_le_mul hb.2 (by omega) h1.1 (by omega)
  exact ⟨Int.mul_nonneg hb.1 h1.1, by omega⟩
theorem ind_rng {w : Nat → Int32} {j : Nat} {n : Nat} : ∀ t, t < n → (0 : Int) ≤ (fun t => if (w t).toInt = (j : Int) then 1 else 0 : Nat → Int) t ∧ (fun t => if (w t).toInt = (j : Int) then 1 else 0 : Nat → Int) t ≤ 9 := fun t _ => by dsimp only; split <;> omega
theorem neg_rng {w : Nat → Int32} {u : Nat → Int} {n : Nat} (hu : ∀ t, t < n → 0 ≤ u t ∧ u t ≤ 9) : ∀ t, t < n → (0 : Int) ≤ (fun t => if (w t).toInt < 0 then u t else 0 : Nat → Int) t ∧ (fun t => if (w t).toInt < 0 then u t else 0 : Nat → Int) t ≤ 9 := fun t ht => by have := hu t ht; dsimp only; split <;> omega
/-- a weight -/
theorem wwt_chance {k i : Nat} {x : Int32} {g : Int64} (h : (f (1 + k)).toInt = 3) (hx : x = f (73 + 3 * k + i)) (hg : g = x.toInt64) : g.toInt = wwt f k i := by
  rw [tl_i2l hg, hx]; unfold wwt; rw [if_pos h]
theorem wwt_player {k i : Nat} (h : ¬ (f (1 + k)).toInt = 3) : (1 : Int64).toInt = wwt f k i := by unfold wwt; rw [if_neg h]; decide
theorem tl_small {x y : Int64} {B C : Int} (hx : -1000 ≤ x.toInt ∧ x.toInt ≤ 1000) (hy : -1000 ≤ y.toInt ∧ y.toInt ≤ 1000) : (x + y).toInt = x.toInt + y.toInt ∧ (x - y).toInt = x.toInt - y.toInt ∧ (x * y).toInt = x.toInt * y.toInt ∧ -1000000 ≤ x.toInt * y.toInt ∧ x.toInt * y.toInt ≤ 1000000 := by
  have h := tl_absmul (A := 1000) (B := 1000) hx hy
  exact ⟨tl_add (by omega) (by omega), tl_sub (by omega) (by omega), tl_mul (by omega) (by omega), by omega, by omega⟩
theorem PRT_row (hG : GS f) (hK : K < 12) (hb : 0 ≤ b ∧ b ≤ 5) {i i2 : Nat} (h : PRT f c w N b u K i (ct R)) (hi : i < wys f K) (hs : wsel f c K i) {t v : Int32} {p g x m y : Int64} {J : Nat} (ht : t = f (37 + 3 * K + i)) (hv : v = w t.toInt.toNat) (hvJ : v.toInt = (J : Int)) (hJ : J < N) (hp : p.toInt = b) (hg : g.toInt = wwt f K i) (hx : x = ct R J) (hm : m = p * g) (hy : y = x - m) (gc2 : ct2 = tup ct R J y) (hi2 : i2 = i + 1) : PRT f c w N b u K i2 (ct2 R) := by
  subst hi2 gc2
  have hw := gs_w1 hG hK hi
  have et : wtg f K i = t.toInt.toNat := by unfold wtg; rw [← ht]
  have eJ : (w (wtg f K i)).toInt = (J : Int) := by rw [et, ← hv]; exact hvJ
  intro j hj
  by_cases q : j = J
  · subst q
    rw [tup_at, if_neg (by omega), gsm_sel hs]
    rw [if_pos eJ, Int.mul_one, Int.mul_add]
    have h1 := h j hj
    rw [if_neg (by omega), ← hx] at h1
    have h2 := gsm_b (c := c) hG hK (u := fun t => if (w t).toInt = (j : Int) then 1 else 0) ind_rng (i := i) (by omega) hb
    have h3 := tl_small (B := 0) (C := 0) (x := p) (y := g) (by omega) (by omega)
    have h4 : b * wwt f K i ≤ 5 * 3 := Int.mul_le_mul hb.2 hw.2.1 (by omega) (by omega)
    have h5 := Int.mul_nonneg hb.1 (show 0 ≤ wwt f K i by omega)
    have em : m.toInt = b * wwt f K i := by rw [hm, h3.2.2.1, hp, hg]
    rw [hy, (tl_small (B := 0) (C := 0) (x := x) (y := m) (by omega) (by omega)).2.1]
    omega
  · rw [tup_ne _ _ (Or.inr q), h j hj, gsm_sel hs, gsm_sel hs]
    rw [eJ, if_neg (show ¬ (J : Int) < 0 by omega), if_neg (show ¬ (J : Int) = (j : Int) by omega)]
    simp only [Int.mul_zero, Int.add_zero]
theorem PRT_end (hG : GS f) (hK : K < 12) (hb : 0 ≤ b ∧ b ≤ 5) (hu : ∀ t, t < (f 0).toInt.toNat → 0 ≤ u t ∧ u t ≤ 9) {i i2 : Nat} (h : PRT f c w N b u K i (ct R)) (hR : RWI f c w (f 0).toInt.toNat N) (hi : i < wys f K) (hs : wsel f c K i) {t v : Int32} {p g x m m2 z y : Int64} (ht : t = f (37 + 3 * K + i)) (hv : v = w t.toInt.toNat) (hv0 : v.toInt < 0) (hp : p.toInt = b) (hg : g.toInt = wwt f K i) (hx : x = ct R N) (hm : m = p * g) (hz : z.toInt = u t.toInt.toNat) (hm2 : m2 = m * z) (hy : y = x + m2) (gc2 : ct2 = tup ct R N y) (hi2 : i2 = i + 1) : PRT f c w N b u K i2 (ct2 R) := by
  subst hi2 gc2
  have hw := gs_w1 hG hK hi
  have et : wtg f K i = t.toInt.toNat := by unfold wtg; rw [← ht]
  have eJ : (w (wtg f K i)).toInt < 0 := by rw [et, ← hv]; exact hv0
  have hut := hu (wtg f K i) (by omega)
  intro j hj
  by_cases q : j = N
  · subst q
    rw [tup_at, if_pos rfl, gsm_sel hs]
    rw [if_pos eJ, Int.mul_add]
    have h1 := h j hj
    rw [if_pos rfl, ← hx] at h1
    have h2 := gsm_b (c := c) hG hK (u := fun t => if (w t).toInt < 0 then u t else 0) (neg_rng hu) (i := i) (by omega) hb
    have h3 := tl_small (B := 0) (C := 0) (x := p) (y := g) (by omega) (by omega)
    have h4 : b * wwt f K i ≤ 5 * 3 := Int.mul_le_mul hb.2 hw.2.1 (by omega) (by omega)
    have h5 := Int.mul_nonneg hb.1 (show 0 ≤ wwt f K i by omega)
    have em : m.toInt = b * wwt f K i := by rw [hm, h3.2.2.1, hp, hg]
    rw [← et] at hz
    have h6 := tl_small (B := 0) (C := 0) (x := m) (y := z) (by omega) (by omega)
    have h7 : m.toInt * z.toInt ≤ 15 * 9 := Int.mul_le_mul (by omega) (by omega) (by omega) (by omega)
    have h8 := Int.mul_nonneg (show 0 ≤ m.toInt by omega) (show 0 ≤ z.toInt by omega)
    have em2 : m2.toInt = b * (wwt f K i * u (wtg f K i)) := by rw [hm2, h6.2.2.1, em, hz, Int.mul_assoc]
    rw [hy, (tl_small (B := 0) (C := 0) (x := x) (y := m2) (by omega) (by rw [hm2, h6.2.2.1]; omega)).1]
    omega
  · have hne : ¬ (w (wtg f K i)).toInt = (j : Int) := by omega
    rw [tup_ne _ _ (Or.inr q), h j hj, gsm_sel hs, gsm_sel hs]
    rw [if_neg q, if_neg q]
    rw [if_neg hne, Int.mul_zero, Int.add_zero]
theorem ALL_next {i i2 : Nat} {g al y : Int64} (hG : GS f) (hK : K < 12) (h : al.toInt = gsm f c K (fun _ => 1) i) (hi : i < wys f K) (hs : wsel f c K i) (hg : g.toInt = wwt f K i) (hy : y = al + g) (hi2 : i2 = i + 1) : y.toInt = gsm f c K (fun _ => 1) i2 := by
  subst hi2
  have hw := gs_w1 hG hK hi
  have h1 := gsm_bd (c := c) hG hK (u := fun _ => 1) (fun _ _ => by omega) i (by omega)
  have h2 : wys f K ≤ 3 := by have := (hG.r.2.1 K hK).2.2.1; unfold wys; omega
  rw [gsm_sel hs, hy, (tl_small (B := 0) (C := 0) (x := al) (y := g) (by omega) (by omega)).1]
  omega
theorem PRT_done (hG : GS f) (hR : RWI f c w (f 0).toInt.toNat N) (hM : MAT f c w N a b e u K (tI ct)) (ha : 0 ≤ a ∧ a ≤ 5) (hb : 0 ≤ b ∧ b ≤ 5) (he : 0 ≤ e ∧ e ≤ 1) (hu : ∀ t, t < (f 0).toInt.toNat → 0 ≤ u t ∧ u t ≤ 9) (hK : K < (f 0).toInt.toNat) {i K2 : Nat} (h : PRT f c w N b u K i (ct R)) (hi : i = wys f K) (hw : (w K).toInt = (R : Int)) (hRN : R < N) {al p m x y q m2 x2 y2 : Int64} (hal : al.toInt = gsm f c K (fun _ => 1) i) (hp : p.toInt = a) (hm : m = p * al) (hx : x = ct R R) (hy : y = x + m) (g2 : ct2 = tup ct R R y) (hq : q.toInt = e) (hm2 : m2 = q * al) (hx2 : x2 = ct2 R N) (hy2 : y2 = x2 + m2) (g3 : ct3 = tup ct2 R N y2) (hK2 : K2 = K + 1) : MAT f c w N a b e u K2 (tI ct3) := by
  have h0 := hG.r.1
  have hM2 := MAT_tup hR (MAT_tup hR hM g2 hK hw) g3 hK hw
  refine MAT_next hM2 (fun _ j hj => ?_) hK2
  have hK12 : K < 12 := by omega
  have h2 : wys f K ≤ 3 := by have := (hG.r.2.1 K hK12).2.2.1; unfold wys; omega
  have h1 := gsm_bd (c := c) hG hK12 (u := fun _ => 1) (fun _ _ => by omega) i (by omega)
  rw [show (w K).toInt.toNat = R by omega]
  have hpa := tl_small (B := 0) (C := 0) (x := p) (y := al) (by omega) (by omega)
  have hqa := tl_small (B := 0) (C := 0) (x := q) (y := al) (by omega) (by omega)
  have em : m.toInt = a * gsm f c K (fun _ => 1) i := by rw [hm, hpa.2.2.1, hp, hal]
  have em2 : m2.toInt = e * gsm f c K (fun _ => 1) i := by rw [hm2, hqa.2.2.1, hq, hal]
  have b1 := gsm_b (c := c) hG hK12 (u := fun _ => 1) (fun _ _ => by omega) (i := i) (by omega) ha
  have b2 := gsm_b (c := c) hG hK12 (u := fun _ => 1) (fun _ _ => by omega) (i := i) (b := e) (by omega) (by omega)
  have hR0 := h R (by omega)
  rw [if_neg (by omega), ← hx] at hR0
  have hN0 := h N (Nat.le_refl _)
  rw [if_pos rfl] at hN0
  have ex2 : x2 = ct R N := by rw [hx2, g2, tup_ne _ _ (Or.inr (by omega))]
  rw [← ex2] at hN0
  have b3 := gsm_b (c := c) hG hK12 (u := fun t => if (w t).toInt = (R : Int) then 1 else 0) ind_rng (i := i) (by omega) hb
  have b4 := gsm_b (c := c) hG hK12 (u := fun t => if (w t).toInt < 0 then u t else 0) (neg_rng hu) (i := i) (by omega) hb
  unfold arow
  rw [← hi]
  by_cases q1 : j = N
  · subst q1
    rw [g3, tup_at, if_pos rfl, hy2, (tl_small (B := 0) (C := 0) (x := x2) (y := m2) (by omega) (by omega)).1, hN0, em2]
  · rw [if_neg q1, g3, tup_ne _ _ (Or.inr q1)]
    by_cases q2 : j = R
    · subst q2
      rw [g2, tup_at, if_pos hw, hy, (tl_small (B := 0) (C := 0) (x := x) (y := m) (by omega) (by omega)).1, hR0, em]
      omega
    · rw [g2, tup_ne _ _ (Or.inr q2), if_neg (by omega), h j hj, if_neg q1]
      omega
/-- what the solving lays -/
def PLD (w : Nat → Int32) (N : Nat) (A : Nat → Nat → Int) (u0 l0 u l : Nat → Int64) (m : Nat) : Prop := (∀ t, (m ≤ t ∨ (w t).toInt < 0) → u t = u0 t ∧ l t = l0 t) ∧ ∀ t, t < m → 0 ≤ (w t).toInt → (u t).toInt * eb A N = (l t).toInt * eX A N (w t).toInt.toNat N ∧ 0 < (l t).toInt ∧ (l t).toInt ≤ eb A N ∧ 0 ≤ (u t).toInt ∧ (u t).toInt ≤ eX A N (w t).toInt.toNat N
theorem PLD_zero {A : Nat → Nat → Int} {u0 l0 : Nat → Int64} : PLD w N A u0 l0 u0 l0 0 := ⟨fun _ _ => ⟨rfl, rfl⟩, fun t h => absurd h (by omega)⟩
theorem PLD_skip {A : Nat → Nat → Int} {u0 l0 u l : Nat → Int64} {m m2 : Nat} (h : PLD w N A u0 l0 u l m) (hw : (w m).toInt < 0) (hm : m2 = m + 1) : PLD w N A u0 l0 u l m2 := by
  subst hm
  refine ⟨fun t ht => h.1 t (by omega), fun t ht h0 => ?_⟩
  by_cases q : t = m
  · subst q; omega
  · exact h.2 t (by omega) h0
theorem PLD_next {A : Nat → Nat → Int} {u0 l0 u l u' l' : Nat → Int64} {m m2 : Nat} {a b : Int} (h : PLD w N A u0 l0 u l m) (hw : 0 ≤ (w m).toInt) (hL : LYS u l u' l' m a b) (ha : a = eX A N (w m).toInt.toNat N) (hb : b = eb A N) (ha0 : 0 ≤ a) (hm : m2 = m + 1) : PLD w N A u0 l0 u' l' m2 := by
  subst hm
  refine ⟨fun t ht => ?_, fun t ht h0 => ?_⟩
  · have q : t ≠ m := fun z => by subst z; omega
    rw [(hL.1 t q).1, (hL.1 t q).2]
    exact h.1 t (by omega)
  · by_cases q : t = m
    · subst q
      obtain ⟨h1, h2, h3, h4, h5, _⟩ := hL.2 ha0
      rw [← ha, ← hb]
      exact ⟨h1, h2, h3, h4, h5⟩
    · rw [(hL.1 t q).1, (hL.1 t q).2]
      exact h.2 t (by omega) h0
/-- what a play brings, as fractions -/
def PLV (f c : Nat → Int32) (u l : Nat → Int64) : Prop := ∃ v, VAL f c v ∧ ∀ t, t < (f 0).toInt.toNat → 0 < (l t).toInt ∧ (l t).toInt ≤ 400000000 ∧ 0 ≤ (u t).toInt ∧ (u t).toInt ≤ 3600000000 ∧ (((u t).toInt : Int) : Rat) = (((l t).toInt : Int) : Rat) * v t
theorem PLV_of (hG : GS f) (hR : RWI f c w (f 0).toInt.toNat N) {A : Nat → Nat → Int} (hM : MAT f c w N 1 1 0 (upay f) (f 0).toInt.toNat A) {u0 l0 u l : Nat → Int64} {m : Nat} (hU : UPA (upay f) u0 l0 (f 0).toInt.toNat) (h : PLD w N A u0 l0 u l m) (hm : m = (f 0).toInt.toNat) : PLV f c u l := by
  subst hm
  have hE := MAT_EH hG hR hM (by omega) (by omega)
  have hL := MAT_LOK hG hR hM (by omega) (fun t ht => upay_rng hG ht)
  refine ⟨_, MAT_VAL hG hR hM (fun _ _ => rfl), fun t ht => ?_⟩
  by_cases q : 0 ≤ (w t).toInt
  · rw [if_pos q]
    have hN := (hR.1 t ht).2
    obtain ⟨h1, h2, h3, h4, h5⟩ := h.2 t ht q
    have b1 := hE.blt (c := N) (Nat.le_refl _)
    have b2 := hE.last hL (c := N) (Nat.le_refl _) (i := (w t).toInt.toNat) (by omega)
    have b3 := hE.bpos (c := N) (Nat.le_refl _)
    refine ⟨h2, by omega, h4, by omega, ?_⟩
    have hbR : ((eb A N : Int) : Rat) ≠ 0 := by
      intro z
      have : eb A N = 0 := by exact_mod_cast z
      omega
    have e1 : (((u t).toInt : Int) : Rat) * ((eb A N : Int) : Rat) = (((l t).toInt : Int) : Rat) * ((eX A N (w t).toInt.toNat N : Int) : Rat) := by rw [← Rat.intCast_mul, h1, Rat.intCast_mul]
    generalize ((eX A N (w t).toInt.toNat N : Int) : Rat) = X at e1 ⊢
    generalize ((eb A N : Int) : Rat) = B at e1 hbR ⊢
    have e2 : (((u t).toInt : Int) : Rat) = (((u t).toInt : Int) : Rat) * B / B := (Rat.mul_div_cancel hbR).symm
    rw [e2, e1]
    grind
  · rw [if_neg q]
    obtain ⟨h1, h2⟩ := h.1 t (Or.inr (by omega))
    obtain ⟨h3, h4⟩ := hU t ht
    have h5 := upay_rng hG ht
    rw [h1, h2, h3, h4]
    refine ⟨by omega, by omega, by omega, by omega, ?_⟩
    rw [show ((1 : Int) : Rat) = 1 from rfl]; grind
theorem PLV_last (hG : GS f) (hR : RWI f c w (f 0).toInt.toNat N) {A : Nat → Nat → Int} (hM : MAT f c w N 1 1 0 (upay f) (f 0).toInt.toNat A) {ct : Nat → Nat → Int64} (hS : SM N A N ct) {k : Nat} (hk : k < (f 0).toInt.toNat) (hw : 0 ≤ (w k).toInt) {x : Int64} (hx : x = ct (w k).toInt.toNat N) : x.toInt = eX A N (w k).toInt.toNat N ∧ 0 ≤ x.toInt := by
  have hE := MAT_EH hG hR hM (by omega) (by omega)
  have hL := MAT_LOK hG hR hM (by omega) (fun t ht => upay_rng hG ht)
  have hN := (hR.1 k hk).2
  have e : x.toInt = eX A N (w k).toInt.toNat N := by rw [hx]; exact hS _ _ (by omega) (Or.inr ⟨rfl, hL⟩)
  refine ⟨e, ?_⟩
  rw [e]
  refine hE.nonneg (fun i hi => ?_) _ (by omega)
  obtain ⟨k2, hk2, e2⟩ := hR.2.1 i hi
  have hA := hM k2 hk2 (by omega) N (Nat.le_refl _)
  rw [show (w k2).toInt.toNat = i by omega] at hA
  rw [hA]
  unfold arow
  rw [if_pos rfl, Int.zero_mul, Int.add_zero, Int.one_mul]
  have h0 := hG.r.1
  exact (gsm_bd (c := c) hG (k := k2) (by omega) (neg_rng (fun t ht => upay_rng hG ht)) (wys f k2) (Nat.le_refl _)).1
theorem ALL_skip {i i2 : Nat} {al : Int64} (h : al.toInt = gsm f c K (fun _ => 1) i) (hs : ¬ wsel f c K i) (hi2 : i2 = i + 1) : al.toInt = gsm f c K (fun _ => 1) i2 := by
  subst hi2
  rw [gsm_not hs]; exact h
theorem to_lt (hG : GS f) (hK : K < 12) {i : Nat} {t : Int32} (hi : (i : Int) < (f (25 + K)).toInt) (ht : t = f (37 + 3 * K + i)) : 0 ≤ t.toInt ∧ t.toInt < (f 0).toInt := by
  have h := gs_w1 hG hK (i := i) (by unfold wys; omega)
  rw [ht]; omega
end FI
theorem qw_134 : Cond.fieldLink RX12 46 "ChanceRingsModel" "up" "[J" ∈ wsL_law := tseg_5 (by decide +kernel) (List.mem_of_getElem? (i := 149) (by decide +kernel))
theorem qw_135 : Cond.fieldLink RX12 50 "ChanceRingsModel" "low" "[J" ∈ wsL_law := tseg_5 (by decide +kernel) (List.mem_of_getElem? (i := 150) (by decide +kernel))
theorem qw_148 : Cond.fieldLink RX12 43 "ChanceRingsModel" "row" "[I" ∈ wsL_law := tseg_5 (by decide +kernel) (List.mem_of_getElem? (i := 148) (by decide +kernel))
theorem qw_168 : Cond.fieldLink RX12 64 "ChanceRingsModel" "replyUp" "[J" ∈ wsL_law := tseg_5 (by decide +kernel) (List.mem_of_getElem? (i := 154) (by decide +kernel))
theorem qw_169 : Cond.fieldLink RX12 67 "ChanceRingsModel" "replyLow" "[J" ∈ wsL_law := tseg_5 (by decide +kernel) (List.mem_of_getElem? (i := 155) (by decide +kernel))
theorem qw_173 : Cond.fieldLink RX12 70 "ChanceRingsModel" "worthUp" "[J" ∈ wsL_law := tseg_5 (by decide +kernel) (List.mem_of_getElem? (i := 156) (by decide +kernel))
theorem qw_174 : Cond.fieldLink RX12 73 "ChanceRingsModel" "worthLow" "[J" ∈ wsL_law := tseg_5 (by decide +kernel) (List.mem_of_getElem? (i := 157) (by decide +kernel))
theorem qw_179 : Cond.fieldLink RX12 58 "ChanceRingsModel" "bestUp" "[J" ∈ wsL_law := tseg_5 (by decide +kernel) (List.mem_of_getElem? (i := 152) (by decide +kernel))
theorem qw_180 : Cond.fieldLink RX12 61 "ChanceRingsModel" "bestLow" "[J" ∈ wsL_law := tseg_5 (by decide +kernel) (List.mem_of_getElem? (i := 153) (by decide +kernel))
theorem qw_185 : Cond.fieldLink RX12 76 "ChanceRingsModel" "bestWay" "[I" ∈ wsL_law := tseg_5 (by decide +kernel) (List.mem_of_getElem? (i := 158) (by decide +kernel))
theorem qw_206 : Cond.methodLink RX12 190 yX12_throwsIf ∈ wsL_law := tseg_6 (by decide +kernel) (List.mem_of_getElem? (i := 90) (by decide +kernel))
theorem qw_207 : Cond.instanceMethod yX12_throwsIf ∈ wsL_law := tseg_6 (by decide +kernel) (List.mem_of_getElem? (i := 92) (by decide +kernel))
theorem qw_208 : Cond.selects RX12 yX12_throwsIf yX12_throwsIf ∈ wsL_law := List.mem_filter.mpr ⟨List.mem_append_left _ (List.mem_of_getElem? (i := 63) (by decide +kernel)), by decide +kernel⟩
theorem qw_209 : Cond.code yX12_throwsIf cX12_throwsIf 2 (some .boolean) ∈ wsL_law := tseg_6 (by decide +kernel) (List.mem_of_getElem? (i := 93) (by decide +kernel))
